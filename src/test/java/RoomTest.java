import java.lang.management.ManagementFactory;
import java.lang.reflect.Array;
import java.lang.reflect.Field;
import java.lang.reflect.Modifier;
import java.util.ArrayDeque;
import java.util.IdentityHashMap;

/** Rule 12 of LANGUAGE.md: all rows are made in constructors and used again, and are few enough; calls make none. */
public final class RoomTest {
    private static final long ELEMENTS_MOST = 200000;
    /* An object has 512 calls at most. A program's rows would be some 50,000 bytes, an exception is some 600. */
    private static final int CALLS = 512;
    private static final long BYTES_MOST = 32000;
    private static final String[] TEXTS = {
        "PRINT(1)", "LOC INT x := 1; (PRINT(x); x) + (x := 2)", "MODE A = STRUCT(INT v, REF A n); LOC A a; a := (1, NIL)",
        "(INT n) INT: n", "UNION(INT, BOOL) u = 1; CASE u WHEN (INT i): PRINT(i), (BOOL b): PRINT(b) ESAC",
        "FOR i TO 3 DO PRINT(i) OD",
    };
    private static final String[] FAULTY = {"", "x", "1 +", "MODE A = REF A; 1", "LOC INT x; LOC INT x; 1", "TRUE + 1"};

    private RoomTest() {
    }

    public static void main(String[] args) {
        keepsItsRooms();
        callsMakeNoRows();
        Check.end();
    }

    private static void keepsItsRooms() {
        AlgolHouse house = new AlgolHouse();
        long atFirst = elements(house);
        Check.due("few elements", atFirst <= ELEMENTS_MOST, true);
        useWholly(house);
        Check.due("elements behind all calls", elements(house), atFirst);
        Check.due("programs", house.programs(), 6);
    }

    /* The first time the Java machine's own work is among what is made; least of some is the calls' own. */
    private static void callsMakeNoRows() {
        if (!(ManagementFactory.getThreadMXBean() instanceof com.sun.management.ThreadMXBean bean)
                || !bean.isThreadAllocatedMemorySupported() || !bean.isThreadAllocatedMemoryEnabled()) {
            return;
        }
        long thread = Thread.currentThread().getId();
        long least = Long.MAX_VALUE;
        for (int i = 0; i < 20; i++) {
            AlgolHouse house = new AlgolHouse();
            long before = bean.getThreadAllocatedBytes(thread);
            useWholly(house);
            least = Math.min(least, bean.getThreadAllocatedBytes(thread) - before);
        }
        Check.due("bytes made by calls are few (" + least + ")", least <= BYTES_MOST, true);
    }

    /* Some 512 calls: all rooms for programs twice, texts with faults, runs, all orders. */
    private static void useWholly(AlgolHouse house) {
        int calls = 0;
        for (int round = 0; round < 2; round++) {
            house.clear();
            for (String text : FAULTY) {
                calls += 2 + text.length() / 8;
                Check.read(house, text);
            }
            for (String text : TEXTS) {
                calls += 2 + text.length() / 8;
                Check.read(house, text);
            }
        }
        while (calls < CALLS) {
            for (int p = 0; p < house.programs() && calls < CALLS; p++) {
                house.run(p, calls, 3000);
                house.orders(p, 3000, 200);
                house.one(p, 0, 0, 0);
                calls += 3;
            }
        }
    }

    /** All elements of rows, and fields, that an object leads to, each once. */
    private static long elements(Object from) {
        IdentityHashMap<Object, Object> seen = new IdentityHashMap<>();
        ArrayDeque<Object> todo = new ArrayDeque<>();
        long all = 0;
        todo.add(from);
        seen.put(from, from);
        while (!todo.isEmpty()) {
            Object next = todo.remove();
            if (next.getClass().isArray()) {
                all += Array.getLength(next);
                for (int i = 0; next instanceof Object[] row && i < row.length; i++) {
                    visit(row[i], seen, todo);
                }
            } else {
                all += fields(next, seen, todo);
            }
        }
        return all;
    }

    private static int fields(Object of, IdentityHashMap<Object, Object> seen, ArrayDeque<Object> todo) {
        int all = 0;
        for (Field field : of.getClass().getDeclaredFields()) {
            if (!Modifier.isStatic(field.getModifiers())) {
                all++;
                if (!field.getType().isPrimitive()) {
                    field.setAccessible(true);
                    visit(valueOf(field, of), seen, todo);
                }
            }
        }
        return all;
    }

    private static Object valueOf(Field field, Object of) {
        try {
            return field.get(of);
        } catch (IllegalAccessException shut) {
            throw new IllegalStateException(shut);
        }
    }

    private static void visit(Object what, IdentityHashMap<Object, Object> seen, ArrayDeque<Object> todo) {
        if (what != null && seen.put(what, what) == null) {
            todo.add(what);
        }
    }
}
