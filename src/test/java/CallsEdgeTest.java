import java.util.ArrayList;
import java.util.List;
import java.util.concurrent.Callable;

/** Promises 1 to 21, each number that one names, one less, one more; and what each call throws, and leaves as it was. */
public final class CallsEdgeTest {
    private static final String INDEX = "IndexOutOfBoundsException";
    private static final String ARGUMENT = "IllegalArgumentException";
    private static final String STATE = "IllegalStateException";
    private static final int LEAST = Integer.MIN_VALUE;
    private static final int MOST = Integer.MAX_VALUE;
    private static final String[] SIX = {"PRINT(1)", "LOC INT a:=2;PRINT(a+1)", "PROC(INT)INT f=(INT n)INT:n;f(3)",
        "MODE A=STRUCT(INT v,REF A n);LOC A a;a", "(PRINT(1);1)+(PRINT(2);2)", "1/0"};

    /** A call on a house, by its name. */
    private interface Use {
        Object on(AlgolHouse house);
    }

    private CallsEdgeTest() {
    }

    public static void main(String[] args) {
        bytes();
        noPrograms();
        sixPrograms();
        faultsStay();
        clearing();
        whichIsThrown();
        nothingChanges();
        nodesAndSteps();
        walks();
        modesOfTwo();
        limitsOfRuns();
        runsStay();
        limitsOfOrders();
        ordersInTurn();
        unlikeOutcomes();
        outcomesStay();
        Check.end();
    }

    private static void throwsIt(String what, Callable<?> call, String want) {
        Check.due(what, Check.answer(call), want);
    }

    private static AlgolHouse house(String... texts) {
        AlgolHouse house = new AlgolHouse();
        for (String text : texts) {
            Check.due("a program: " + text, Check.read(house, text) >= 0, true);
        }
        return house;
    }

    private static void bytes() {
        AlgolHouse house = new AlgolHouse();
        Check.due("none", house.type(0), 0);
        Check.due("none behind a 0", house.type(0x3100L), 0);
        Check.due("none behind a 0", house.type(0x3131313131313100L), 0);
        Check.due("one", house.type(0x31L), 1);
        Check.due("up to the first 0", house.type(0x31003b3bL), 3);
        Check.due("seven", house.type(0x00313b313b313b31L), 10);
        Check.due("eight", house.type(0x2020202020202020L), 18);
        Check.due("eight with a sign", house.type(-1L), 26);
        Check.due("it is read", house.read(), -1);
        Check.due("as it was typed", house.fault(0) + " " + house.fault(1), "1 2");
        AlgolHouse order = new AlgolHouse();
        order.type(0x3228544e495250L | 0x2900000000000000L);
        Check.due("the lowest byte first", order.read(), 0);
        Check.due("PRINT(2)", order.run(0, 0, 9) + " " + order.number(0), "0 2");
        for (int length = 473; length <= 480; length++) {
            AlgolHouse full = new AlgolHouse();
            Check.type(full, " ".repeat(length));
            for (int more = 1; more <= 8; more++) {
                long eight = 0x3131313131313131L >>> 8 * (8 - more);
                if (length + more > 480) {
                    Check.due(length + " and " + more, full.type(eight), -1);
                    Check.due("none comes", full.type(0), length);
                }
            }
            int fits = 480 - length;
            if (fits > 0) {
                Check.due(length + " and " + fits, full.type(0x3131313131313131L >>> 8 * (8 - fits)), 480);
            }
            Check.due("full", full.type(0x20), -1);
        }
    }

    private static void noPrograms() {
        AlgolHouse house = new AlgolHouse();
        Check.due("programs", house.programs(), 0);
        Check.due("clear", house.clear(), 0);
        Check.due("fault", house.fault(0) + " " + house.fault(1), "0 -1");
        Check.due("ran", Check.told(house), "0 -1 0 0 0 :");
        for (int p : new int[] {0, -1, 1, LEAST, MOST}) {
            throwsIt("nodes", () -> house.nodes(p), INDEX);
            throwsIt("node", () -> house.node(p, 0, 0), INDEX);
            throwsIt("step", () -> house.step(p, 0, 0), INDEX);
            throwsIt("mode", () -> house.mode(p, 0, 0), INDEX);
            throwsIt("parts", () -> house.parts(p, 0, 0), INDEX);
            throwsIt("one", () -> house.one(p, 0, p, 0), INDEX);
            throwsIt("meant", () -> house.meant(p, 0), INDEX);
            throwsIt("run", () -> house.run(p, 0, 9), INDEX);
            throwsIt("number", () -> house.number(p), INDEX);
            throwsIt("kind", () -> house.kind(p), INDEX);
            throwsIt("orders", () -> house.orders(p, 9, 9), INDEX);
            throwsIt("outcome", () -> house.outcome(p, 0), INDEX);
            throwsIt("outcomes", () -> house.outcomes(p, 0), INDEX);
        }
        Check.due("told", house.told(), 0);
    }

    private static void sixPrograms() {
        AlgolHouse house = house(SIX);
        Check.due("programs", house.programs(), 6);
        for (int p = 0; p < 6; p++) {
            AlgolHouse alone = house(SIX[p]);
            Check.due("nodes", house.nodes(p), alone.nodes(0));
            Check.due("run", house.run(p, 5, 99), alone.run(0, 5, 99));
            Check.due("told", Check.told(house), Check.told(alone));
            Check.due("orders", house.orders(p, 99, 9), alone.orders(0, 99, 9));
        }
        throwsIt("a seventh", () -> house.nodes(6), INDEX);
        throwsIt("a seventh", () -> house.run(6, 0, 9), INDEX);
        throwsIt("no room", house::read, STATE);
        Check.type(house, "a fault");
        throwsIt("no room for a fault", house::read, STATE);
        Check.due("no fault either", house.fault(0) + " " + house.fault(1), "0 -1");
        Check.due("the text stays", house.type(0), 7);
    }

    private static void faultsStay() {
        AlgolHouse house = new AlgolHouse();
        Check.due("a fault", Check.read(house, "1;("), -1);
        Check.due("it", house.fault(0) + " " + house.fault(1), "1 3");
        Check.due("a program", Check.read(house, "1"), 0);
        Check.due("it stays", house.fault(0) + " " + house.fault(1), "1 3");
        Check.due("another fault", Check.read(house, "1+TRUE"), -1);
        Check.due("it", house.fault(0) + " " + house.fault(1), "6 1");
        Check.due("SYNTAX behind it", Check.read(house, "1;)"), -1);
        Check.due("it", house.fault(0) + " " + house.fault(1), "1 2");
        Check.due("a mode's fault behind it", Check.read(house, "LOC VOID a;)"), -1);
        Check.due("it", house.fault(0) + " " + house.fault(1), "1 11");
        Check.due("a mode's fault behind it", Check.read(house, "LOC VOID a;1"), -1);
        Check.due("it", house.fault(0) + " " + house.fault(1), "4 4");
        Check.due("OPERATION again", Check.read(house, "1+TRUE"), -1);
        Check.due("it", house.fault(0) + " " + house.fault(1), "6 1");
        Check.due("no program more", house.programs(), 1);
        Check.due("a program", Check.read(house, "2"), 1);
        house.run(0, 0, 9);
        house.orders(0, 9, 9);
        house.clear();
        Check.due("it stays", house.fault(0) + " " + house.fault(1), "6 1");
        for (int what : new int[] {2, -1, LEAST, MOST}) {
            throwsIt("fault", () -> house.fault(what), ARGUMENT);
        }
    }

    private static void clearing() {
        AlgolHouse house = house("PRINT(7)", "1");
        Check.type(house, "PRINT(8)");
        house.run(0, 0, 99);
        house.orders(0, 99, 9);
        Check.due("clear", house.clear(), 2);
        Check.due("none", house.clear(), 0);
        Check.due("programs", house.programs(), 0);
        throwsIt("nodes", () -> house.nodes(0), INDEX);
        throwsIt("run", () -> house.run(0, 0, 9), INDEX);
        throwsIt("one", () -> house.one(0, 0, 1, 0), INDEX);
        Check.due("what the run told stays", Check.told(house), "0 -1 3 0 1 : I7");
        Check.due("outcomes stay", house.outcome(0, 3) + " " + house.outcomes(0, 0), "1 7");
        Check.due("the text stays", house.type(0), 8);
        Check.due("it is the first program", house.read(), 0);
        Check.due("run", house.run(0, 0, 9) + " " + house.number(0), "0 8");
    }

    /* Where two could be thrown it is that which stands first. */
    private static void whichIsThrown() {
        AlgolHouse house = house("PRINT(1)");
        throwsIt("node: no program, another what", () -> house.node(1, 0, 4), INDEX);
        throwsIt("node: no node, another what", () -> house.node(0, 3, 4), INDEX);
        throwsIt("node: no node, another what", () -> house.node(0, -1, -1), INDEX);
        throwsIt("node: another what", () -> house.node(0, 2, 4), ARGUMENT);
        throwsIt("run: no program, no steps", () -> house.run(1, 0, 0), INDEX);
        throwsIt("run: no program, too many steps", () -> house.run(-1, 0, 3001), INDEX);
        throwsIt("run: no steps", () -> house.run(0, 0, 0), ARGUMENT);
        throwsIt("orders: no program, no steps", () -> house.orders(1, 0, 9), INDEX);
        throwsIt("orders: no program, no most", () -> house.orders(1, 9, 0), INDEX);
        throwsIt("orders: no most", () -> house.orders(0, 9, 0), ARGUMENT);
        throwsIt("outcome: none, another what", () -> house.outcome(0, 4), INDEX);
        house.orders(0, 9, 9);
        throwsIt("outcome: none, another what", () -> house.outcome(1, 4), INDEX);
        throwsIt("outcome: another what", () -> house.outcome(0, 4), ARGUMENT);
    }

    /* All that can be asked for, but the text. */
    private static String state(AlgolHouse house) {
        StringBuilder all = new StringBuilder().append(house.programs()).append(' ').append(house.fault(0)).append(' ')
                .append(house.fault(1));
        for (int p = 0; p < house.programs(); p++) {
            all.append(" p").append(house.nodes(p));
            for (int k = 0; k < house.nodes(p); k++) {
                all.append(' ').append(house.node(p, k, 0)).append(',').append(house.node(p, k, 1)).append(',')
                        .append(house.mode(p, k, 0));
            }
        }
        all.append(" ran ").append(Check.told(house)).append(" of ");
        for (int i = 0; i < 3; i++) {
            int outcome = i;
            all.append(Check.answer(() -> house.outcome(outcome, 1))).append(Check.answer(() -> house.outcome(outcome, 3)))
                    .append(Check.answer(() -> house.outcomes(outcome, 0)));
        }
        return all.toString();
    }

    private static AlgolHouse used() {
        AlgolHouse house = house(SIX);
        house.clear();
        Check.read(house, "x");
        for (int p = 0; p < 6; p++) {
            Check.read(house, SIX[p]);
        }
        house.run(1, 0, 99);
        house.orders(4, 99, 9);
        Check.type(house, "PRINT(5)");
        return house;
    }

    private static void nothingChanges() {
        String before = state(used());
        List<Use> wrong = new ArrayList<>();
        wrong.addAll(List.of(AlgolHouse::read, h -> h.fault(2), h -> h.fault(-1)));
        wrong.addAll(List.of(h -> h.nodes(6), h -> h.nodes(-1), h -> h.node(6, 0, 0), h -> h.node(0, 99, 0)));
        wrong.addAll(List.of(h -> h.node(0, 0, 4), h -> h.node(0, 0, -1), h -> h.step(0, 99, 0), h -> h.step(6, 0, 0)));
        wrong.addAll(List.of(h -> h.mode(0, 99, 0), h -> h.mode(6, 0, 0), h -> h.parts(0, 99, 0), h -> h.parts(6, 0, 0)));
        wrong.addAll(List.of(h -> h.one(0, 99, 0, 0), h -> h.one(0, 0, 0, 99), h -> h.one(6, 0, 0, 0), h -> h.one(0, 0, 6, 0)));
        wrong.addAll(List.of(h -> h.meant(0, 99), h -> h.meant(6, 0), h -> h.run(6, 0, 9), h -> h.run(-1, 0, 9)));
        wrong.addAll(List.of(h -> h.run(0, 0, 0), h -> h.run(0, 0, 3001), h -> h.run(0, 0, LEAST), h -> h.run(0, 0, MOST)));
        wrong.addAll(List.of(h -> h.number(1), h -> h.number(-1), h -> h.kind(1), h -> h.kind(-1)));
        wrong.addAll(List.of(h -> h.ran(5), h -> h.ran(-1)));
        wrong.addAll(List.of(h -> h.orders(6, 9, 9), h -> h.orders(-1, 9, 9), h -> h.orders(0, 0, 9), h -> h.orders(0, 3001, 9)));
        wrong.addAll(List.of(h -> h.orders(0, 9, 0), h -> h.orders(0, 9, 201), h -> h.orders(0, 9, LEAST)));
        wrong.addAll(List.of(h -> h.outcome(2, 0), h -> h.outcome(-1, 0), h -> h.outcome(0, 4), h -> h.outcome(0, -1)));
        wrong.addAll(List.of(h -> h.outcomes(2, 0), h -> h.outcomes(-1, 0), h -> h.outcomes(0, 2), h -> h.outcomes(0, -1)));
        for (int i = 0; i < wrong.size(); i++) {
            AlgolHouse house = used();
            Use use = wrong.get(i);
            String answer = Check.answer(() -> use.on(house));
            Check.due("wrong call " + i + " throws", answer.equals(INDEX) || answer.equals(ARGUMENT) || answer.equals(STATE),
                    true);
            Check.due("wrong call " + i + " changes nothing", state(house), before);
            Check.due("nor the text", house.type(0), 8);
            house.clear();
            Check.due("which is read", house.read() + " " + house.run(0, 0, 9) + " " + house.number(0), "0 0 5");
        }
    }

    private static void nodesAndSteps() {
        AlgolHouse house = house("LONG a=1;PRINT(a)");
        Check.due("nodes", house.nodes(0), 5);
        Check.due("kinds", house.node(0, 0, 0) + " " + house.node(0, 4, 0), "1 18");
        throwsIt("one more", () -> house.node(0, 5, 0), INDEX);
        throwsIt("one less", () -> house.node(0, -1, 0), INDEX);
        throwsIt("far", () -> house.node(0, MOST, 0), INDEX);
        throwsIt("far", () -> house.node(0, LEAST, 0), INDEX);
        throwsIt("step", () -> house.step(0, 5, 0), INDEX);
        throwsIt("mode", () -> house.mode(0, 5, 0), INDEX);
        throwsIt("parts", () -> house.parts(0, -1, 0), INDEX);
        throwsIt("meant", () -> house.meant(0, 5), INDEX);
        for (int what : new int[] {4, -1, LEAST, MOST}) {
            throwsIt("what", () -> house.node(0, 0, what), ARGUMENT);
        }
        int[] within = {5, 2, 1, 2, 1};
        int[] steps = {0, 0, 1, 0, 0};
        for (int k = 0; k < 5; k++) {
            Check.due("within " + k, house.node(0, k, 2), within[k]);
            Check.due("steps of " + k, house.node(0, k, 3), steps[k]);
        }
        Check.due("step 0", house.step(0, 2, 0), 4);
        for (int i : new int[] {1, -1, 2, LEAST, MOST}) {
            Check.due("step " + i, house.step(0, 2, i), 0);
        }
        Check.due("meant", house.meant(0, 4) + " " + house.meant(0, 0) + " " + house.meant(0, 1) + " " + house.meant(0, 3),
                "1 -1 -1 -1");
    }

    private static void walk(AlgolHouse house, int k, long walk, int mode, int parts) {
        int bits = (int) walk;
        Check.due("walk " + Long.toHexString(walk), house.mode(0, k, bits) + " " + house.parts(0, k, bits), mode + " " + parts);
    }

    private static void walks() {
        AlgolHouse house = house("(INT a,REF[]BOOL b,LONG c,LONG d,LONG e,LONG f,LONG g,STRUCT(INT p,BOOL q)h)PROC VOID:SKIP");
        walk(house, 1, 0, 5, 8);
        walk(house, 1, 1, 0, 0);
        walk(house, 1, 2, 4, 0);
        walk(house, 1, 0x02, 4, 0);
        walk(house, 1, 0x12, 6, 0);
        walk(house, 1, 0x112, 2, 0);
        walk(house, 1, 0xFF2, 2, 0);
        walk(house, 1, 0x1002, -1, -1);
        walk(house, 1, 0x1112, -1, -1);
        walk(house, 1, 3, 1, 0);
        walk(house, 1, 7, 1, 0);
        walk(house, 1, 8, 7, 2);
        walk(house, 1, 0x18, 0, 0);
        walk(house, 1, 0x28, 2, 0);
        walk(house, 1, 0x38, -1, -1);
        walk(house, 1, 0xF8, -1, -1);
        walk(house, 1, 0x108, -1, -1);
        walk(house, 1, 9, -1, -1);
        walk(house, 1, 14, -1, -1);
        walk(house, 1, 15, 5, 0);
        walk(house, 1, 0xFF, 3, 0);
        walk(house, 1, 0x1F, -1, -1);
        walk(house, 1, 0x10, -1, -1);
        walk(house, 1, 0xF0, -1, -1);
        walk(house, 1, 0xFFF, -1, -1);
        walk(house, 1, 0x80000000L, -1, -1);
        walk(house, 1, 0xFFFFFFFFL, -1, -1);
        AlgolHouse deep = house("MODE A=STRUCT(INT v,REF A n);LOC A a;a", "REF REF REF REF REF REF REF REF INT a=SKIP;a");
        walk(deep, 2, 0, 4, 0);
        walk(deep, 2, 0xF, 7, 2);
        walk(deep, 2, 0x2F2F2F2FL, 4, 0);
        walk(deep, 2, 0xF2F2F2F2L, -1, -1);
        walk(deep, 2, 0x82F2F2FL, 7, 2);
        walk(deep, 2, 0x12F2F2FL, 7, 2);
        walk(deep, 2, 0x112F2F2FL, 0, 0);
        walk(deep, 2, 0x912F2F2FL, -1, -1);
        walk(deep, 2, 0x2F2F2F2FL | 0x80000000L, -1, -1);
        int[] eight = {0x11111111, 0xF1111111, 0x80000000, 0x10000000, 0x1111111, 0xF111111};
        int[] kinds = {0, 0, 0, 0, 4, 4};
        for (int i = 0; i < eight.length; i++) {
            Check.due("eight parts " + i, deep.mode(1, 3, eight[i]), kinds[i]);
        }
        AlgolHouse flat = house("UNION(INT,UNION(BOOL,LONG,UNION(INT,BOOL)),BOOL)u=1;u");
        walk(flat, 3, 0, 8, 3);
        AlgolHouse none = house("UNION(INT,BOOL)u=1;u;SKIP");
        walk(none, 3, 0, 8, 2);
        walk(none, 3, 1, -1, -1);
        walk(none, 3, 0xF, -1, -1);
        walk(none, 0, 0, -1, -1);
        walk(none, 1, 0, -1, -1);
        walk(none, 4, 0, -1, -1);
        walk(none, 2, 0, 0, 0);
        walk(none, 2, 1, -1, -1);
    }

    private static void modesOfTwo() {
        AlgolHouse house = house("1;SKIP;TRUE", "1;LONG 1");
        Check.due("INT and INT", house.one(0, 1, 1, 1), true);
        Check.due("INT and LONG", house.one(0, 1, 1, 2), false);
        Check.due("BOOL and the whole", house.one(0, 3, 0, 0), true);
        Check.due("none", house.one(0, 2, 0, 2), false);
        Check.due("none", house.one(0, 2, 1, 1), false);
        Check.due("none", house.one(1, 1, 0, 2), false);
        throwsIt("one", () -> house.one(0, 4, 1, 1), INDEX);
        throwsIt("one", () -> house.one(0, 2, 1, 3), INDEX);
        throwsIt("one", () -> house.one(0, 2, 2, 0), INDEX);
        throwsIt("one", () -> house.one(-1, 0, 0, 0), INDEX);
        throwsIt("one", () -> house.one(0, 0, 0, -1), INDEX);
    }

    private static void limitsOfRuns() {
        AlgolHouse house = house("DO SKIP OD", "1");
        for (int steps : new int[] {0, 3001, -1, LEAST, MOST}) {
            throwsIt("run", () -> house.run(0, 0, steps), ARGUMENT);
            throwsIt("orders", () -> house.orders(0, steps, 9), ARGUMENT);
        }
        Check.due("no run yet", Check.told(house), "0 -1 0 0 0 :");
        Check.due("one step", house.run(0, 0, 1) + " " + house.ran(2), "7 1");
        Check.due("3000 steps", house.run(0, 0, 3000) + " " + house.ran(2), "7 3000");
        Check.due("orders of one step", house.orders(0, 1, 1), 1);
        Check.due("orders of 3000 steps", house.orders(0, 3000, 1), 1);
        Check.due("ahead of a run nothing", house.run(1, 0, 9) + " " + Check.told(house), "0 0 -1 3 0 1 :");
        for (int what : new int[] {5, -1, LEAST, MOST}) {
            throwsIt("ran", () -> house.ran(what), ARGUMENT);
        }
    }

    private static void runsStay() {
        AlgolHouse house = house("PRINT(5);PRINT(LONG 6);PRINT(FALSE);PRINT(TRUE)", "1+2", "PRINT(9);PRINT(1/0)");
        house.run(0, 0, 99);
        Check.due("told", house.told(), 4);
        Check.due("numbers", Check.told(house), "0 -1 9 0 1 : I5 L6 B0 B1");
        throwsIt("number", () -> house.number(4), INDEX);
        throwsIt("number", () -> house.number(-1), INDEX);
        throwsIt("number", () -> house.number(MOST), INDEX);
        throwsIt("kind", () -> house.kind(4), INDEX);
        throwsIt("kind", () -> house.kind(LEAST), INDEX);
        Check.due("orders", house.orders(1, 99, 9) + " " + house.orders(1, 99, 1), "1 -1");
        Check.read(house, "x");
        house.clear();
        Check.due("it stays", Check.told(house), "0 -1 9 0 1 : I5 L6 B0 B1");
        AlgolHouse other = house("PRINT(5);PRINT(6)", "PRINT(9);PRINT(1/0)", "1");
        other.run(0, 0, 99);
        Check.due("a failure", other.run(1, 0, 99), 5);
        Check.due("the latest run", Check.told(other), "5 16 7 0 1 : I9");
        throwsIt("a number of the run before", () -> other.number(1), INDEX);
        Check.due("none told", other.run(2, 0, 99) + " " + other.told(), "0 0");
        throwsIt("none", () -> other.number(0), INDEX);
    }

    private static String all(AlgolHouse house, int count) {
        StringBuilder all = new StringBuilder().append(count);
        for (int i = 0; i < count; i++) {
            all.append(" |").append(house.outcome(i, 0)).append(' ').append(house.outcome(i, 1)).append(" x")
                    .append(house.outcome(i, 3)).append(':');
            for (int j = 0; j < house.outcome(i, 2); j++) {
                all.append(' ').append(house.outcomes(i, j));
            }
        }
        return all.toString();
    }

    private static void ordersAre(String text, int steps, int most, String want) {
        AlgolHouse house = house(text);
        Check.due("orders of " + text, all(house, house.orders(0, steps, most)), want);
    }

    private static void limitsOfOrders() {
        AlgolHouse house = house("1");
        for (int most : new int[] {0, 201, -1, LEAST, MOST}) {
            throwsIt("orders", () -> house.orders(0, 9, most), ARGUMENT);
        }
        Check.due("1 and 200", house.orders(0, 9, 1) + " " + house.orders(0, 9, 200), "1 1");
        ordersAre("1", 9, 1, "1 |0 -1 x1:");
        ordersAre("1+1", 9, 2, "1 |0 -1 x2:");
        ordersAre("1+1", 9, 1, "-1");
        ordersAre("[]INT a=(1,2,3);1", 9, 6, "1 |0 -1 x6:");
        ordersAre("[]INT a=(1,2,3);1", 9, 5, "-1");
        ordersAre("[]INT a=(1,2,3,4,5);1", 10, 120, "1 |0 -1 x120:");
        ordersAre("[]INT a=(1,2,3,4,5);1", 10, 119, "-1");
        ordersAre("1+1;1+1;1+1", 99, 8, "1 |0 -1 x8:");
        ordersAre("1+1;1+1;1+1", 99, 7, "-1");
        ordersAre("[]INT a=(1,2,3,4);[]INT b=(1,2,3,4);1", 99, 200, "-1");
        ordersAre("[]INT a=(1,2,3,4);[]INT b=(1,2,3);1", 99, 144, "1 |0 -1 x144:");
        ordersAre("[]INT a=(1,2,3,4);[]INT b=(1,2,3);1", 99, 143, "-1");
        ordersAre("[]INT a=(1,2,3,4,5);[]INT b=1;1", 99, 200, "1 |0 -1 x120:");
        ordersAre("TO 199 DO 1+1 OD", 3000, 200, "-1");
        String chain = "REF INT z=NIL;PROC INT f=INT:z;1";
        ordersAre(chain + "+f".repeat(199), 3000, 200, "1 |2 29 x200:");
        ordersAre(chain + "+f".repeat(199), 3000, 199, "-1");
        ordersAre(chain + "+f".repeat(200), 3000, 200, "-1");
        ordersAre(chain + "+f".repeat(12), 3000, 13, "1 |2 29 x13:");
        ordersAre(chain + "+f".repeat(12), 3000, 12, "-1");
        ordersAre("1/0+(1+1)", 99, 6, "1 |5 1 x6:");
    }

    /* The latest DRAW that can be greater is the first; a DRAW of 0 exchanges the last part with the first. */
    private static void ordersInTurn() {
        String one = "(PRINT(1);1)";
        String two = "(PRINT(2);1)";
        String three = "(PRINT(3);1)";
        ordersAre(one + "+" + two, 99, 9, "2 |0 -1 x1: 2 1 |0 -1 x1: 1 2");
        ordersAre("[]INT a=(" + one + "," + two + "," + three + ");1", 99, 9,
                "6 |0 -1 x1: 2 3 1 |0 -1 x1: 3 2 1 |0 -1 x1: 3 1 2 |0 -1 x1: 1 3 2 |0 -1 x1: 2 1 3 |0 -1 x1: 1 2 3");
        ordersAre(one + "+" + two + ";" + one + "+" + three, 99, 9,
                "4 |0 -1 x1: 2 1 3 1 |0 -1 x1: 2 1 1 3 |0 -1 x1: 1 2 3 1 |0 -1 x1: 1 2 1 3");
        ordersAre("LOC INT n:=0;(n:=1;1)+(PRINT(n);1);IF n=1 THEN 1+1 FI", 99, 99, "2 |0 -1 x8: 0 |0 -1 x8: 1");
        ordersAre("LOC INT n:=0;[]INT a=((PRINT(n);1),(n:=2;1));1", 99, 99, "2 |0 -1 x2: 2 |0 -1 x2: 0");
    }

    private static void unlikeOutcomes() {
        String flag = "LOC BOOL b:=FALSE;PROC VOID s=VOID:b:=TRUE;";
        ordersAre(flag + "[]INT a=((s;1),(IF b THEN PRINT(TRUE)ELSE PRINT(1)FI;2));1", 99, 9, "2 |0 -1 x2: 1 |0 -1 x2: 1");
        ordersAre(flag + "[]INT a=((s;1),(IF b THEN PRINT(LONG 1)ELSE PRINT(1)FI;2));1", 99, 9, "2 |0 -1 x2: 1 |0 -1 x2: 1");
        ordersAre(flag + "[]INT a=((s;1),(IF b THEN PRINT(1)ELSE PRINT(1)FI;2));1", 99, 9, "1 |0 -1 x4: 1");
        ordersAre("INT z=0;(1/z)+(2/z)", 99, 9, "2 |5 16 x2: |5 10 x2:");
        ordersAre("REF INT z=NIL;z+(1/0)", 99, 9, "2 |5 18 x2: |2 14 x1:");
        String[] wide = {"(PRINT(1);1)", "(PRINT(1);1)", "(PRINT(2);1)", "(PRINT(3);1)"};
        AlgolHouse twelve = house("[]INT a=(" + String.join(",", wide) + ");1");
        Check.due("12 outcomes", twelve.orders(0, 99, 24), 12);
        Check.due("each twice", twelve.outcome(0, 3) + " " + twelve.outcome(11, 3), "2 2");
        throwsIt("a 13th", () -> twelve.outcome(12, 0), INDEX);
        AlgolHouse just = house("LOC BOOL b:=FALSE;PROC INT s=INT:(b:=TRUE;1);INT q=IF b THEN 1/0 ELSE 1 FI+s;"
                + "[]INT a=(" + String.join(",", wide) + ");1");
        Check.due("13 outcomes", just.orders(0, 999, 200), -1);
        AlgolHouse thirteen = house("[]INT a=((PRINT(1);1),(PRINT(2);1),(PRINT(3);1),(PRINT(4);1));1");
        Check.due("more than 12", thirteen.orders(0, 99, 24), -1);
    }

    private static void outcomesStay() {
        AlgolHouse house = house("(PRINT(1);1)+(PRINT(2);2)", "[]INT a=(1,2,3);1",
                "[]INT a=((PRINT(1);1),(PRINT(2);1),(PRINT(3);1),(PRINT(4);1));1");
        throwsIt("none yet", () -> house.outcome(0, 0), INDEX);
        Check.due("too many at first", house.orders(0, 99, 1), -1);
        throwsIt("still none", () -> house.outcome(0, 0), INDEX);
        throwsIt("still none", () -> house.outcomes(0, 0), INDEX);
        Check.due("two", all(house, house.orders(0, 99, 2)), "2 |0 -1 x1: 2 1 |0 -1 x1: 1 2");
        Check.due("too many orders", house.orders(1, 99, 5), -1);
        Check.due("they stay", all(house, 2), "2 |0 -1 x1: 2 1 |0 -1 x1: 1 2");
        Check.due("too many outcomes", house.orders(2, 99, 200), -1);
        Check.due("they stay", all(house, 2), "2 |0 -1 x1: 2 1 |0 -1 x1: 1 2");
        throwsIt("no third", () -> house.outcome(2, 0), INDEX);
        house.run(1, 0, 99);
        Check.read(house, "x");
        Check.due("they stay", all(house, 2), "2 |0 -1 x1: 2 1 |0 -1 x1: 1 2");
        Check.due("the run stays", Check.told(house), "0 -1 8 0 1 :");
        Check.due("another", all(house, house.orders(1, 99, 6)), "1 |0 -1 x6:");
        throwsIt("no second", () -> house.outcome(1, 0), INDEX);
        throwsIt("no number", () -> house.outcomes(0, 0), INDEX);
        for (int what : new int[] {4, -1, LEAST, MOST}) {
            throwsIt("outcome", () -> house.outcome(0, what), ARGUMENT);
        }
        for (int i : new int[] {1, -1, LEAST, MOST}) {
            throwsIt("outcome", () -> house.outcome(i, 0), INDEX);
            throwsIt("outcomes", () -> house.outcomes(i, 0), INDEX);
            throwsIt("outcomes", () -> house.outcomes(0, i), INDEX);
        }
    }
}
