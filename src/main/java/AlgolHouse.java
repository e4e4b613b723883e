/**
 * A house for a small Algol 68: texts are read and judged, and run by small steps. The document (DOC.md) says what
 * every call must do; the words in comments here (PLACE, RANGE, STEP, AGE, ..) are the document's.
 */
public final class AlgolHouse {
    private static final int TEXT_MOST = 480;
    private static final int PROGRAMS_MOST = 6;
    private static final int STEPS_MOST = 3000;
    private static final int ORDERS_MOST = 200;
    private static final int OUTCOMES_MOST = 12;
    private static final int TOLD_MOST = 200;
    private static final int OPEN_MOST = 24;
    private static final int ITEMS_MOST = 40;
    private static final int UNITS_MOST = 8;
    private static final int DEPTH_MOST = 40;
    private static final int PLACES_MOST = 300;
    private static final int SIZE_MOST = 300;
    private static final int ELEMENTS_MOST = 64;
    private static final long INT_MOST = 2147483647L;
    private static final long INT_LEAST = -2147483648L;
    private static final long LONG_LEAST = 1L << 63;

    /* Nodes are never more than tokens and one. */
    private static final int NODES_MOST = TEXT_MOST + 4;
    /* A mode takes two bytes of text at least; with the plain ones they stay below this. */
    private static final int MODES_MOST = 256;
    /* UNIONS have the members of those in them: some fifty members in some twenty UNIONS at most. */
    private static final int PARTS_MOST = 1536;
    private static final int LIST_MOST = 128;

    private static final int FAULT_SYNTAX = 1;
    private static final int FAULT_TWICE = 2;
    private static final int FAULT_NONE = 3;
    private static final int FAULT_MODE = 4;
    private static final int FAULT_COME = 5;
    private static final int FAULT_OPERATION = 6;

    private static final int UNDEFINED_USED = 1;
    private static final int NIL_USED = 2;
    private static final int BOUND = 3;
    private static final int TOO_YOUNG = 4;
    private static final int NUMBER_WRONG = 5;
    private static final int NO_ROOM = 6;
    private static final int NO_STEPS = 7;

    private static final int SERIAL = 1;
    private static final int OPERATION = 2;
    private static final int IDENTITY = 3;
    private static final int VARIABLE = 4;
    private static final int ASSIGNATION = 5;
    private static final int IDENTICAL = 6;
    private static final int ROUTINE = 7;
    private static final int SKIP = 8;
    private static final int NIL = 9;
    private static final int DYADIC = 10;
    private static final int MONADIC = 11;
    private static final int EDGE = 12;
    private static final int SELECTION = 13;
    private static final int GENERATOR = 14;
    private static final int NUMBER = 15;
    private static final int LONG_NUMBER = 16;
    private static final int TRUTH = 17;
    private static final int TAG = 18;
    private static final int CAST = 19;
    private static final int CALL = 20;
    private static final int SLICE = 21;
    private static final int TRIM = 22;
    private static final int DISPLAY = 23;
    private static final int IF = 24;
    private static final int CASE = 25;
    private static final int WHEN = 26;
    private static final int LOOP = 27;
    private static final int PRINT = 28;

    /* What GENERATOR and VARIABLE have, in their data. */
    private static final int ON_HEAP = 1;
    private static final int WITH_BOUNDS = 2;
    private static final int WITH_UNIT = 4;

    /* What a LOOP has, in its data. */
    private static final int WITH_FOR = 1;
    private static final int WITH_FROM = 2;
    private static final int WITH_BY = 4;
    private static final int WITH_TO = 8;
    private static final int WITH_WHILE = 16;

    private static final int M_INT = 0;
    private static final int M_LONG = 1;
    private static final int M_BOOL = 2;
    private static final int M_VOID = 3;
    private static final int M_REF = 4;
    private static final int M_PROC = 5;
    private static final int M_ROW = 6;
    private static final int M_STRUCT = 7;
    private static final int M_UNION = 8;
    /* While a text is read, an INDICANT stands for its mode as this and its number. */
    private static final int ALIAS = 1000;

    private static final int STEP_CALL = 1;
    private static final int STEP_FOLLOW = 2;
    private static final int STEP_UNITE = 3;
    private static final int STEP_WIDEN = 4;
    private static final int STEP_ROW = 5;
    private static final int STEP_VOID = 6;

    private static final int T_END = 0;
    private static final int T_BAD = 1;
    private static final int T_TAG = 2;
    private static final int T_NUMBER = 3;
    private static final int T_MODEWORD = 4;
    private static final int T_OPWORD = 5;
    /* Symbols of one byte, as they stand in SYMBOLS; those of two bytes have numbers of their own behind them. */
    private static final String SYMBOLS = "()[],;:+-*/%&!~=<>";
    private static final int T_OPEN = 6;
    private static final int T_CLOSE = 7;
    private static final int T_LEFT = 8;
    private static final int T_RIGHT = 9;
    private static final int T_COMMA = 10;
    private static final int T_SEMICOLON = 11;
    private static final int T_COLON = 12;
    private static final int T_PLUS = 13;
    private static final int T_MINUS = 14;
    private static final int T_TIMES = 15;
    private static final int T_OVER = 16;
    private static final int T_REST = 17;
    private static final int T_AND = 18;
    private static final int T_OR = 19;
    private static final int T_NOT = 20;
    private static final int T_EQUAL = 21;
    private static final int T_LESS = 22;
    private static final int T_MORE = 23;
    private static final int T_UNLIKE = 24;
    private static final int T_ATMOST = 25;
    private static final int T_ATLEAST = 26;
    private static final int T_BECOMES = 27;
    /* KEPT words, as they stand here, one blank behind each. */
    private static final String KEPT = "MODE PRIO OP LOC HEAP SKIP IS ISNT NIL LWB UPB OF LONG TRUE FALSE BEGIN END ";
    private static final String KEPT_TOO =
            "IF THEN ELSE FI CASE IN OUT ESAC WHEN FOR FROM BY TO WHILE DO OD PRINT INT BOOL VOID REF PROC STRUCT UNION ";
    private static final int KEPT_COUNT = 41;
    private static final int T_KEPT = 30;
    private static final int T_MODE = 30;
    private static final int T_PRIO = 31;
    private static final int T_OP = 32;
    private static final int T_LOC = 33;
    private static final int T_HEAP = 34;
    private static final int T_SKIP = 35;
    private static final int T_IS = 36;
    private static final int T_ISNT = 37;
    private static final int T_NIL = 38;
    private static final int T_LWB = 39;
    private static final int T_UPB = 40;
    private static final int T_OF = 41;
    private static final int T_LONG = 42;
    private static final int T_TRUE = 43;
    private static final int T_FALSE = 44;
    private static final int T_BEGIN = 45;
    private static final int T_ENDWORD = 46;
    private static final int T_IF = 47;
    private static final int T_THEN = 48;
    private static final int T_ELSE = 49;
    private static final int T_FI = 50;
    private static final int T_CASE = 51;
    private static final int T_IN = 52;
    private static final int T_OUT = 53;
    private static final int T_ESAC = 54;
    private static final int T_WHEN = 55;
    private static final int T_FOR = 56;
    private static final int T_FROM = 57;
    private static final int T_BY = 58;
    private static final int T_TO = 59;
    private static final int T_WHILE = 60;
    private static final int T_DO = 61;
    private static final int T_OD = 62;
    private static final int T_PRINT = 63;
    private static final int T_INT = 64;
    private static final int T_BOOL = 65;
    private static final int T_VOID = 66;
    private static final int T_REF = 67;
    private static final int T_PROC = 68;
    private static final int T_STRUCT = 69;
    private static final int T_UNION = 70;

    private static final int PRIORITY_ELSE = 5;
    /* The words LENG and SHORTEN as the tokens have them, their first letter lowest. */
    private static final long LENG = 'L' | 'E' << 8 | 'N' << 16 | 'G' << 24;
    private static final long SHORTEN = 'S' | 'H' << 8 | 'O' << 16 | (long) 'R' << 24 | (long) 'T' << 32
            | (long) 'E' << 40 | (long) 'N' << 48;

    /* What a part must come to, besides a mode that is known. */
    private static final int W_NOTHING = 0;
    private static final int W_STRONG = 1;
    private static final int W_FIRM = 2;
    private static final int W_INT = 3;
    private static final int W_BOOL = 4;
    private static final int W_UNION = 5;
    private static final int W_PROC = 6;
    private static final int W_TOLD = 7;
    private static final int W_ROW = 8;
    private static final int W_STRUCT = 9;
    private static final int W_REF = 10;

    /* What a cell of the memory holds. */
    private static final int UNWORKED = -1;
    private static final int UNDEFINED = 0;
    private static final int PLAIN = 1;
    private static final int NAME = 2;
    private static final int CODE = 3;
    private static final int OBJECT = 4;
    /* A NAME'S bits are its PLACE, a CODE'S its ROUTINE, each and so many times its AGE. */
    private static final int AGE_UNIT = 1024;
    private static final long NIL_BITS = -1;

    /* Each pending value took a step; LOOPS keep three numbers more. */
    private static final int STACK_CELLS = STEPS_MOST + 400;
    private static final int SLOT_AT = STACK_CELLS;
    private static final int SLOT_CELLS = (DEPTH_MOST + 1) * ITEMS_MOST;
    private static final int PLACE_AT = SLOT_AT + SLOT_CELLS;
    private static final int PLACE_CELLS = PLACES_MOST + 4;
    private static final int RESULT = PLACE_AT + PLACE_CELLS;
    private static final int NOTHING = RESULT + 1;
    private static final int OBJECT_AT = NOTHING + 1;
    /* Each cell of an object took a step, but for the last FOLLOW, whose steps come behind. */
    private static final int OBJECT_CELLS = STEPS_MOST + 700;
    private static final int CELLS = OBJECT_AT + OBJECT_CELLS;
    private static final int OBJECTS_MOST = STEPS_MOST + 400;
    private static final int ENTRIES_MOST = STEPS_MOST + 16;
    private static final int TURNS_MOST = 1000000;

    private static final int P_BEGIN = 0;
    private static final int P_PARTS = 1;
    private static final int P_CLAUSE = 2;
    private static final int P_CALLED = 3;
    private static final int P_COERCE = 4;
    private static final int P_STEPPED = 5;
    private static final int P_FINISH = 6;
    private static final int P_USE = 7;

    private final Reader reader = new Reader();
    private final Tokens tokens = reader.tokens;
    private final Unfolder unfolder = new Unfolder();
    private final Judge judge = new Judge();
    private final Machine machine = new Machine();
    private final Program[] held = new Program[PROGRAMS_MOST];
    private int count;
    private int latestFault;
    private int latestFaultAt = -1;
    private final Tale latest = new Tale();
    /* OUTCOMES of the latest orders() that came to an end, and those that are being gathered. */
    private Tale[] kept = new Tale[OUTCOMES_MOST + 1];
    private Tale[] gathered = new Tale[OUTCOMES_MOST + 1];
    private int keptCount;

    /* All rooms are made here and used again: no call makes one. */
    public AlgolHouse() {
        for (int p = 0; p < PROGRAMS_MOST; p++) {
            held[p] = new Program();
        }
        for (int i = 0; i <= OUTCOMES_MOST; i++) {
            kept[i] = new Tale();
            gathered[i] = new Tale();
        }
    }

    public int type(long eight) {
        int bytes = 0;
        while (bytes < 8 && (eight >>> (8 * bytes) & 255) != 0) {
            bytes++;
        }
        if (tokens.length + bytes > TEXT_MOST) {
            return -1;
        }
        for (int i = 0; i < bytes; i++) {
            tokens.text[tokens.length] = (int) (eight >>> (8 * i) & 255);
            tokens.length++;
        }
        return tokens.length;
    }

    public int read() throws IllegalStateException {
        checkRoom();
        Program to = held[count];
        tokens.split();
        tokens.length = 0;
        judge.fault = 0;
        boolean good = false;
        try {
            reader.readAll(to);
            good = modesHold(to);
            if (good) {
                judge.judge(to);
            }
        } catch (IllegalStateException refused) {
            good = judge.fault != 0 ? blame(judge.fault, judge.faultAt) : blame(reader.fault, reader.faultAt);
        }
        count += good ? 1 : 0;
        return good ? count - 1 : -1;
    }

    private void checkRoom() {
        if (count >= PROGRAMS_MOST) {
            throw new IllegalStateException("there is no room for another program");
        }
    }

    private boolean blame(int what, int place) {
        latestFault = what;
        latestFaultAt = place;
        return false;
    }

    /* What is wrong of the text's modes, ahead of its nodes. */
    private boolean modesHold(Program to) {
        int twice = tokens.twice();
        if (twice >= 0) {
            return blame(FAULT_TWICE, tokens.at[twice]);
        }
        unfolder.take(reader.tree.modes, reader.definition, tokens.namedCount);
        int circular = unfolder.circular();
        if (circular >= 0) {
            return blame(FAULT_MODE, tokens.namedAt[circular]);
        }
        unfolder.unfold(to.modes);
        int wrong = unfolder.wrongUnion(reader.unionAt, to.modes);
        if (wrong >= 0 && (reader.fault == 0 || wrong < reader.faultAt)) {
            return blame(FAULT_MODE, wrong);
        }
        if (reader.fault != 0) {
            return blame(reader.fault, reader.faultAt);
        }
        for (int k = 0; k < to.count; k++) {
            to.declared[k] = unfolder.numberOf(to.declared[k]);
        }
        for (int i = 0; i < to.listCount; i++) {
            to.listMode[i] = unfolder.numberOf(to.listMode[i]);
        }
        return true;
    }

    public int fault(int what) throws IllegalArgumentException {
        if (what != 0 && what != 1) {
            throw new IllegalArgumentException("what is 0 or 1");
        }
        return what == 0 ? latestFault : latestFaultAt;
    }

    public int programs() {
        return count;
    }

    public int clear() {
        int were = count;
        count = 0;
        return were;
    }

    private Program program(int p) {
        if (p < 0 || p >= count) {
            throw new IndexOutOfBoundsException("no such program");
        }
        return held[p];
    }

    private Program programOf(int p, int k) {
        Program found = program(p);
        if (!found.hasNode(k)) {
            throw new IndexOutOfBoundsException("no such node");
        }
        return found;
    }

    public int nodes(int p) throws IndexOutOfBoundsException {
        return program(p).count;
    }

    public int node(int p, int k, int what) throws IndexOutOfBoundsException, IllegalArgumentException {
        Program of = programOf(p, k);
        switch (what) {
            case 0: return of.kind[k];
            case 1: return of.place[k];
            case 2: return of.end[k] - k;
            case 3: return of.stepCount(k);
            default: throw new IllegalArgumentException("what is 0 to 3");
        }
    }

    public int step(int p, int k, int i) throws IndexOutOfBoundsException {
        return programOf(p, k).stepAt(k, i);
    }

    public int mode(int p, int k, int walk) throws IndexOutOfBoundsException {
        Program of = programOf(p, k);
        int m = of.walkTo(k, walk);
        return m < 0 ? -1 : of.modes.sort[m];
    }

    public int parts(int p, int k, int walk) throws IndexOutOfBoundsException {
        Program of = programOf(p, k);
        int m = of.walkTo(k, walk);
        if (m < 0) {
            return -1;
        }
        switch (of.modes.sort[m]) {
            case M_PROC: return of.modes.count[m] - 1;
            case M_STRUCT: case M_UNION: return of.modes.count[m];
            default: return 0;
        }
    }

    public boolean one(int p, int k, int q, int l) throws IndexOutOfBoundsException {
        Program first = programOf(p, k);
        Program second = programOf(q, l);
        int m = first.mode[k];
        int n = second.mode[l];
        if (m < 0 || n < 0) {
            return false;
        }
        return p == q ? m == n : unfolder.same(first.modes, m, second.modes, n);
    }

    public int meant(int p, int k) throws IndexOutOfBoundsException {
        return programOf(p, k).meant[k];
    }

    public int run(int p, long seed, int steps) throws IndexOutOfBoundsException, IllegalArgumentException {
        Program of = program(p);
        if (steps < 1 || steps > STEPS_MOST) {
            throw new IllegalArgumentException("steps are 1 to 3000");
        }
        machine.draws.seed(seed);
        machine.perform(of, steps, latest);
        return latest.failure;
    }

    public int told() {
        return latest.count;
    }

    private void checkTold(int i) {
        if (i < 0 || i >= latest.count) {
            throw new IndexOutOfBoundsException("no such number");
        }
    }

    public long number(int i) throws IndexOutOfBoundsException {
        checkTold(i);
        return latest.numbers[i];
    }

    public int kind(int i) throws IndexOutOfBoundsException {
        checkTold(i);
        return latest.kinds[i];
    }

    public int ran(int what) throws IllegalArgumentException {
        switch (what) {
            case 0: return latest.failure;
            case 1: return latest.place;
            case 2: return latest.steps;
            case 3: return latest.places;
            case 4: return latest.depth;
            default: throw new IllegalArgumentException("what is 0 to 4");
        }
    }

    public int orders(int p, int steps, int most) throws IndexOutOfBoundsException, IllegalArgumentException {
        Program of = program(p);
        if (steps < 1 || steps > STEPS_MOST || most < 1 || most > ORDERS_MOST) {
            throw new IllegalArgumentException("steps are 1 to 3000, most is 1 to 200");
        }
        int found = 0;
        machine.draws.startAll(most);
        for (int n = 1; n <= most; n++) {
            machine.perform(of, steps, gathered[found]);
            found = countOutcome(found);
            if (machine.draws.over || found > OUTCOMES_MOST) {
                return -1;
            }
            if (!machine.draws.advance()) {
                keep(found);
                return found;
            }
        }
        return -1;
    }

    private void keep(int found) {
        Tale[] before = kept;
        kept = gathered;
        gathered = before;
        keptCount = found;
    }

    /* The latest outcome of those gathered counts anew, or for the one that is like it: how many there are. */
    private int countOutcome(int found) {
        for (int i = 0; i < found; i++) {
            if (gathered[i].like(gathered[found])) {
                gathered[i].times++;
                return found;
            }
        }
        gathered[found].times = 1;
        return found + 1;
    }

    private Tale outcomeAt(int i) {
        if (i < 0 || i >= keptCount) {
            throw new IndexOutOfBoundsException("no such outcome");
        }
        return kept[i];
    }

    public int outcome(int i, int what) throws IndexOutOfBoundsException, IllegalArgumentException {
        Tale of = outcomeAt(i);
        switch (what) {
            case 0: return of.failure;
            case 1: return of.place;
            case 2: return of.count;
            case 3: return of.times;
            default: throw new IllegalArgumentException("what is 0 to 3");
        }
    }

    public long outcomes(int i, int j) throws IndexOutOfBoundsException {
        Tale of = outcomeAt(i);
        if (j < 0 || j >= of.count) {
            throw new IndexOutOfBoundsException("no such number");
        }
        return of.numbers[j];
    }

    /** The text, and the tokens that it splits into; the last one is T_END, or T_BAD where a token is none. */
    private static final class Tokens {
        final int[] text = new int[TEXT_MOST];
        int length;
        final int[] sort = new int[TEXT_MOST + 1];
        final int[] at = new int[TEXT_MOST + 1];
        final int[] value = new int[TEXT_MOST + 1];
        final long[] word = new long[TEXT_MOST + 1];
        int count;
        final long[] kept = new long[KEPT_COUNT];
        final long[] named = new long[TEXT_MOST / 4];
        final int[] namedAt = new int[TEXT_MOST / 4];
        int namedCount;

        Tokens() {
            keep(KEPT_TOO, keep(KEPT, 0));
        }

        private int keep(String words, int from) {
            int which = from;
            int letters = 0;
            for (int i = 0; i < words.length() && which < KEPT_COUNT; i++) {
                if (words.charAt(i) == ' ') {
                    which++;
                    letters = 0;
                } else {
                    kept[which] |= (long) words.charAt(i) << (8 * letters);
                    letters++;
                }
            }
            return which;
        }

        void split() {
            count = 0;
            int from = 0;
            boolean good = true;
            for (int guard = 0; guard <= TEXT_MOST && good; guard++) {
                while (from < length && text[from] == ' ') {
                    from++;
                }
                if (from >= length) {
                    break;
                }
                int behind = takeToken(from);
                good = behind >= 0;
                from = good ? behind : from;
            }
            add(good ? T_END : T_BAD, from, 0, 0);
            nameModes();
            rankOperations();
        }

        private void add(int what, int place, int number, long letters) {
            if (count < sort.length) {
                sort[count] = what;
                at[count] = place;
                value[count] = number;
                word[count] = letters;
                count++;
            }
        }

        /* Where the token ends; -1, and it isn't taken, if it is none. */
        private int takeToken(int from) {
            int c = text[from];
            if (isCapital(c)) {
                return takeBold(from);
            }
            if (isSmall(c)) {
                return takeTag(from);
            }
            if (isDigit(c)) {
                return takeNumber(from);
            }
            return takeSymbol(from);
        }

        private int takeBold(int from) {
            int to = from;
            while (to < length && isCapital(text[to])) {
                to++;
            }
            if (to - from > 8) {
                return -1;
            }
            long letters = pack(from, to);
            int what = T_OPWORD;
            for (int i = 0; i < KEPT_COUNT; i++) {
                if (kept[i] == letters) {
                    what = T_KEPT + i;
                }
            }
            add(what, from, 0, letters);
            return to;
        }

        private int takeTag(int from) {
            int to = from;
            while (to < length && (isSmall(text[to]) || isDigit(text[to]))) {
                to++;
            }
            if (to - from > 8) {
                return -1;
            }
            add(T_TAG, from, 0, pack(from, to));
            return to;
        }

        private int takeNumber(int from) {
            int to = from;
            long number = 0;
            while (to < length && isDigit(text[to])) {
                number = to - from < 10 ? number * 10 + (text[to] - '0') : number;
                to++;
            }
            if (to - from > 10 || number > INT_MOST) {
                return -1;
            }
            add(T_NUMBER, from, (int) number, 0);
            return to;
        }

        private int takeSymbol(int from) {
            int which = SYMBOLS.indexOf((char) text[from]);
            if (which < 0) {
                return -1;
            }
            int what = T_OPEN + which;
            if (from + 1 < length && text[from + 1] == '=' && withEqual(what) != what) {
                add(withEqual(what), from, 0, 0);
                return from + 2;
            }
            add(what, from, 0, 0);
            return from + 1;
        }

        private static int withEqual(int what) {
            switch (what) {
                case T_COLON: return T_BECOMES;
                case T_OVER: return T_UNLIKE;
                case T_LESS: return T_ATMOST;
                case T_MORE: return T_ATLEAST;
                default: return what;
            }
        }

        private static boolean isCapital(int c) {
            return c >= 'A' && c <= 'Z';
        }

        private static boolean isSmall(int c) {
            return c >= 'a' && c <= 'z';
        }

        private static boolean isDigit(int c) {
            return c >= '0' && c <= '9';
        }

        private long pack(int from, int to) {
            long letters = 0;
            for (int i = from; i < to && i < length; i++) {
                letters |= (long) text[i] << (8 * (i - from));
            }
            return letters;
        }

        private void nameModes() {
            namedCount = 0;
            for (int t = 0; t + 1 < count; t++) {
                if (sort[t] == T_MODE && sort[t + 1] == T_OPWORD && indicant(word[t + 1]) < 0
                        && namedCount < named.length) {
                    named[namedCount] = word[t + 1];
                    namedAt[namedCount] = at[t + 1];
                    namedCount++;
                }
            }
            for (int t = 0; t < count; t++) {
                int which = sort[t] == T_OPWORD ? indicant(word[t]) : -1;
                if (which >= 0) {
                    sort[t] = T_MODEWORD;
                    value[t] = which;
                }
            }
        }

        private int indicant(long letters) {
            for (int i = 0; i < namedCount; i++) {
                if (named[i] == letters) {
                    return i;
                }
            }
            return -1;
        }

        private void rankOperations() {
            for (int t = 0; t < count; t++) {
                if (sort[t] == T_OPWORD) {
                    value[t] = rankOf(word[t]);
                }
            }
        }

        /* What the first PRIO says; one that says it wrongly is a fault of the text anyway. */
        private int rankOf(long letters) {
            for (int t = 0; t + 3 < count; t++) {
                if (sort[t] == T_PRIO && sort[t + 1] == T_OPWORD && word[t + 1] == letters) {
                    return sort[t + 3] == T_NUMBER ? value[t + 3] : PRIORITY_ELSE;
                }
            }
            return PRIORITY_ELSE;
        }

        int priority(int t) {
            switch (sort[t]) {
                case T_OR: return 2;
                case T_AND: return 3;
                case T_EQUAL: case T_UNLIKE: return 4;
                case T_LESS: case T_ATMOST: case T_MORE: case T_ATLEAST: return 5;
                case T_PLUS: case T_MINUS: return 6;
                case T_TIMES: case T_OVER: case T_REST: return 7;
                default: return value[t];
            }
        }

        /* The token of an INDICANT that stands behind MODE, or PRIO, a second time; -1 without. */
        int twice() {
            for (int t = 1; t < count; t++) {
                int lead = sort[t - 1];
                if (lead != T_MODE && lead != T_PRIO) {
                    continue;
                }
                for (int s = 1; s < t; s++) {
                    if (sort[s - 1] == lead && word[s] == word[t]) {
                        return t;
                    }
                }
            }
            return -1;
        }
    }

    /**
     * A table of modes; the first four are INT, LONG, BOOL, VOID. The parts of a PROC are its parameters, then what it
     * yields.
     */
    private static final class Modes {
        final int[] sort;
        final int[] first;
        final int[] count;
        final int[] part;
        final long[] label;
        /* How many PLACES a PLACE of the mode has when it is made. */
        final int[] weight;
        int size;
        int used;

        Modes(int most, int mostParts) {
            sort = new int[most];
            first = new int[most];
            count = new int[most];
            weight = new int[most];
            part = new int[mostParts];
            label = new long[mostParts];
        }

        void empty() {
            size = 0;
            used = 0;
        }

        void start() {
            empty();
            for (int m = M_INT; m <= M_VOID; m++) {
                begin(m);
            }
        }

        int begin(int what) {
            if (size >= sort.length) {
                return 0;
            }
            sort[size] = what;
            first[size] = used;
            count[size] = 0;
            weight[size] = 1;
            size++;
            return size - 1;
        }

        /* One part more for the mode that was begun last. */
        void extend(int m, long name) {
            if (used < part.length && size > 0) {
                part[used] = m;
                label[used] = name;
                used++;
                count[size - 1]++;
            }
        }

        int wrap(int what, int m) {
            int made = begin(what);
            extend(m, 0);
            return made;
        }

        int refTo(int m) {
            for (int r = 0; r < size; r++) {
                if (sort[r] == M_REF && inner(r) == m) {
                    return r;
                }
            }
            return wrap(M_REF, m);
        }

        int partAt(int m, int i) {
            return i >= 0 && i < count[m] ? part[first[m] + i] : -1;
        }

        /* What REF refers to, a ROW'S elements are, a PROC yields. */
        int inner(int m) {
            return count[m] > 0 ? part[first[m] + count[m] - 1] : -1;
        }

        /* The mode behind a CALL or FOLLOW; -1 if there is none. */
        int hop(int m) {
            boolean hops = sort[m] == M_REF || sort[m] == M_PROC;
            return hops && count[m] == 1 ? part[first[m]] : -1;
        }

        boolean has(int union, int m) {
            for (int i = 0; i < count[union]; i++) {
                if (part[first[union] + i] == m) {
                    return true;
                }
            }
            return false;
        }

        /* A member, or a UNION all of whose members are. */
        boolean unites(int m, int union) {
            boolean many = sort[m] == M_UNION;
            int all = many ? count[m] : 1;
            for (int i = 0; i < all; i++) {
                int member = many ? part[first[m] + i] : m;
                boolean found = false;
                for (int j = 0; j < count[union] && !found; j++) {
                    found = part[first[union] + j] == member;
                }
                if (!found) {
                    return false;
                }
            }
            return sort[union] == M_UNION;
        }

        int field(int struct, long name) {
            for (int i = 0; i < count[struct]; i++) {
                if (label[first[struct] + i] == name) {
                    return i;
                }
            }
            return -1;
        }

        /* STRUCTS lie in one another without end only through REF, PROC, ROW, so this comes to rest. */
        void weigh() {
            boolean changed = true;
            for (int round = 0; round <= size && changed; round++) {
                changed = false;
                for (int m = 0; m < size; m++) {
                    int heavy = sort[m] == M_STRUCT ? heaviness(m) : 1;
                    changed = changed || heavy != weight[m];
                    weight[m] = heavy;
                }
            }
        }

        private int heaviness(int struct) {
            int sum = 1;
            for (int i = 0; i < count[struct]; i++) {
                sum += weight[part[first[struct] + i]];
            }
            return Math.min(sum, PLACES_MOST + 1);
        }
    }

    /** The nodes of a text that was read, each ahead of its parts, with what was judged of them. */
    private static final class Program {
        final int[] kind = new int[NODES_MOST];
        final int[] place = new int[NODES_MOST];
        /* The node behind all that are within it. */
        final int[] end = new int[NODES_MOST];
        final int[] up = new int[NODES_MOST];
        final int[] mode = new int[NODES_MOST];
        final int[] meant = new int[NODES_MOST];
        /* STEPS of coercion: so many CALLS and FOLLOWS, then one of another kind (or 0), then so many ROWS. */
        final int[] hops = new int[NODES_MOST];
        final int[] tail = new int[NODES_MOST];
        final int[] rows = new int[NODES_MOST];
        /*
         * What else is known of a node, by its kind. data: the value of NUMBERS and TRUTH; 1 of ISNT and UPB; which parts
         * GENERATOR, VARIABLE, LOOP have; how many parameters (OP), TAGS (SERIAL), UNITS (CASE); a SELECTION'S field;
         * what PRINT, DYADIC, MONADIC (standard ones) have for a mode; a TAG'S RANGE; where the list of a ROUTINE or WHEN
         * begins. more: how long that list is; the number in its RANGE of a TAG, IDENTITY, VARIABLE.
         */
        final int[] data = new int[NODES_MOST];
        final int[] more = new int[NODES_MOST];
        /* TAGS, and SIGNS: of a symbol its token's number, of an INDICANT its letters. */
        final long[] name = new long[NODES_MOST];
        /* Where a declared TAG stands; of a ROUTINE the innermost RANGE around it that it uses. */
        final int[] spot = new int[NODES_MOST];
        final int[] declared = new int[NODES_MOST];
        /* Parameters of ROUTINES, CHOICES of WHEN. */
        final long[] listName = new long[LIST_MOST];
        final int[] listMode = new int[LIST_MOST];
        int listCount;
        int count;
        final Modes modes = new Modes(MODES_MOST, PARTS_MOST);

        void start() {
            count = 0;
            listCount = 0;
            modes.start();
        }

        int make(int what, int at) {
            int k = Math.min(count, NODES_MOST - 1);
            kind[k] = what;
            place[k] = at;
            end[k] = k + 1;
            up[k] = -1;
            mode[k] = -1;
            meant[k] = -1;
            hops[k] = 0;
            tail[k] = 0;
            rows[k] = 0;
            data[k] = 0;
            more[k] = 0;
            name[k] = 0;
            spot[k] = -1;
            declared[k] = -1;
            count = k + 1;
            return k;
        }

        void list(long tag, int m) {
            if (listCount < LIST_MOST) {
                listName[listCount] = tag;
                listMode[listCount] = m;
                listCount++;
            }
        }

        boolean hasNode(int k) {
            return k >= 0 && k < count;
        }

        int kidAt(int k, int i) {
            int kid = k + 1;
            for (int n = 0; n < i && kid < end[k]; n++) {
                kid = end[kid];
            }
            return Math.min(kid, count - 1);
        }

        int kids(int k) {
            int n = 0;
            for (int kid = k + 1; kid < end[k]; kid = end[kid]) {
                n++;
            }
            return n;
        }

        int lastKid(int k) {
            int last = k;
            for (int kid = k + 1; kid < end[k]; kid = end[kid]) {
                last = kid;
            }
            return last;
        }

        boolean isDeclaration(int k) {
            return kind[k] == OPERATION || kind[k] == IDENTITY || kind[k] == VARIABLE;
        }

        boolean isClause(int k) {
            return kind[k] == SERIAL || kind[k] == IF || kind[k] == CASE || kind[k] == WHEN;
        }

        /* Whether a part of a LOOP is its WHILE or DO. */
        boolean inTurn(int loop, int kid) {
            boolean last = end[kid] == end[loop];
            return last || (data[loop] & WITH_WHILE) != 0 && end[end[kid]] == end[loop];
        }

        int stepCount(int k) {
            return hops[k] + (tail[k] == 0 ? 0 : 1) + rows[k];
        }

        int stepAt(int k, int i) {
            if (i < 0 || i >= stepCount(k)) {
                return 0;
            }
            if (i >= hops[k]) {
                return i == hops[k] && tail[k] != 0 ? tail[k] : STEP_ROW;
            }
            return modes.sort[modeBehind(k, i)] == M_PROC ? STEP_CALL : STEP_FOLLOW;
        }

        /* What a node's mode is behind so many CALLS and FOLLOWS. */
        int modeBehind(int k, int hopCount) {
            int m = mode[k];
            for (int h = 0; h < hopCount && m >= 0; h++) {
                m = modes.hop(m);
            }
            return Math.max(m, 0);
        }

        int came(int k) {
            return modeBehind(k, hops[k]);
        }

        /* The mode to which a WALK leads; -1 if it leads nowhere. */
        int walkTo(int k, int walk) {
            int m = mode[k];
            int left = walk;
            for (int i = 0; i < 8 && m >= 0 && left != 0; i++) {
                m = walkOne(m, left & 15);
                left >>>= 4;
            }
            return m;
        }

        private int walkOne(int m, int which) {
            switch (modes.sort[m]) {
                case M_REF: case M_ROW: return modes.inner(m);
                case M_PROC: return which == 15 ? modes.inner(m)
                        : which < modes.count[m] ? modes.partAt(m, which - 1) : -1;
                case M_STRUCT: return modes.partAt(m, which - 1);
                default: return -1;
            }
        }
    }

    /** Reads the tokens into nodes, by descent; what can't come is a SYNTAX fault, told by an IllegalStateException. */
    private static final class Reader {
        private static final int NO_DECLARATION = -2;
        final Tokens tokens = new Tokens();
        /* The nodes as they are made, a whole often behind its parts, and the modes as they are written. */
        final Program tree = new Program();
        final int[] kid = new int[NODES_MOST];
        final int[] next = new int[NODES_MOST];
        final int[] last = new int[NODES_MOST];
        final int[] order = new int[NODES_MOST];
        /* Parts of modes, and CHOICES, that wait for the end of their whole. */
        final int[] gather = new int[LIST_MOST * 2];
        final long[] gatherName = new long[LIST_MOST * 2];
        int gathered;
        final int[] operands = new int[TEXT_MOST];
        final int[] signs = new int[TEXT_MOST];
        int height;
        final int[] definition = new int[TEXT_MOST / 4];
        final int[] unionAt = new int[MODES_MOST];
        int now;
        int opened;
        boolean unitLast;
        int fault;
        int faultAt;

        /* Leaves in fault the first of those that can be told as the tokens come, 0 without. */
        void readAll(Program to) {
            tree.start();
            now = 0;
            opened = 0;
            gathered = 0;
            height = 0;
            fault = 0;
            faultAt = -1;
            for (int i = 0; i < definition.length; i++) {
                definition[i] = -1;
            }
            int root = serial(false, -1, at());
            if (look() != T_END) {
                refuse();
            }
            arrange(root, to);
        }

        private int sortAt(int t) {
            return t < 0 ? T_BAD : tokens.sort[Math.min(t, tokens.count - 1)];
        }

        private int look() {
            return tokens.sort[Math.min(now, tokens.count - 1)];
        }

        private int current() {
            return Math.min(now, tokens.count - 1);
        }

        private int at() {
            return tokens.at[Math.min(now, tokens.count - 1)];
        }

        private void refuse() {
            fault = FAULT_SYNTAX;
            faultAt = tokens.at[Math.min(now, tokens.count - 1)];
            throw new IllegalStateException("the text has a fault");
        }

        /* Faults that come behind SYNTAX: the first one is kept. */
        private void note(int what) {
            if (fault == 0) {
                fault = what;
                faultAt = at();
            }
        }

        private void expect(int what) {
            if (look() != what) {
                refuse();
            }
            now++;
        }

        private void enter() {
            if (opened >= OPEN_MOST) {
                refuse();
            }
            opened++;
            now++;
        }

        private void enterBy(int what) {
            if (look() != what) {
                refuse();
            }
            enter();
        }

        private void leave(int what) {
            expect(what);
            opened--;
        }

        private int make(int what) {
            return makeAt(what, at());
        }

        private int makeAt(int what, int place) {
            int k = tree.make(what, place);
            kid[k] = -1;
            next[k] = -1;
            last[k] = -1;
            return k;
        }

        private void attach(int k, int part) {
            tree.up[part] = k;
            if (last[k] < 0) {
                kid[k] = part;
            } else {
                next[last[k]] = part;
            }
            last[k] = part;
        }

        private int whole(int what, int place, int left, int right) {
            int k = makeAt(what, place);
            attach(k, left);
            attach(k, right);
            return k;
        }

        private void push(int m, long name) {
            if (gathered < gather.length) {
                gather[gathered] = m;
                gatherName[gathered] = name;
                gathered++;
            }
        }

        /* A SERIAL; its first DECLARATION or UNIT may have been read already. */
        private int serial(boolean begun, int first, int place) {
            int s = makeAt(SERIAL, place);
            for (int n = 0; n <= ITEMS_MOST; n++) {
                if (n == ITEMS_MOST) {
                    refuse();
                }
                int part = n == 0 && begun ? first : item();
                if (part >= 0) {
                    attach(s, part);
                }
                if (look() != T_SEMICOLON) {
                    if (!unitLast) {
                        refuse();
                    }
                    return s;
                }
                now++;
            }
            return s;
        }

        /* A DECLARATION or UNIT: its node, -1 of one that has none; unitLast says which. */
        private int item() {
            int k = declaration();
            boolean unit = k == NO_DECLARATION;
            if (unit) {
                k = unit();
            }
            unitLast = unit;
            return k;
        }

        private int declaration() {
            int what = look();
            if (what == T_MODE) {
                return modeItem();
            }
            if (what == T_PRIO) {
                return prioItem();
            }
            if (what == T_OP) {
                return opItem();
            }
            if ((what == T_LOC || what == T_HEAP) && sortAt(behindGenerator(now)) == T_TAG) {
                return variable();
            }
            if (startsDeclarer(now) && sortAt(behind(now, opened)) == T_TAG) {
                return identity();
            }
            return NO_DECLARATION;
        }

        private int modeItem() {
            now++;
            int which = look() == T_MODEWORD ? tokens.value[current()] : -1;
            expect(T_MODEWORD);
            enterBy(T_EQUAL);
            int m = declarer(false);
            opened--;
            if (which >= 0 && which < definition.length && definition[which] < 0) {
                definition[which] = m;
            }
            return -1;
        }

        private int prioItem() {
            now++;
            expect(T_OPWORD);
            enterBy(T_EQUAL);
            int value = tokens.value[current()];
            if (look() != T_NUMBER || value < 1 || value > 9) {
                refuse();
            }
            now++;
            opened--;
            return -1;
        }

        private int opItem() {
            int k = make(OPERATION);
            now++;
            if (!isSign(look())) {
                refuse();
            }
            int sign = current();
            tree.name[k] = signName(sign);
            now++;
            enterBy(T_EQUAL);
            if (look() != T_OPEN) {
                refuse();
            }
            int r = routine(isMonadic(tokens.sort[sign]) ? 1 : 2, tokens.sort[sign] == T_NOT ? 1 : 2);
            opened--;
            tree.data[k] = tree.more[r];
            attach(k, r);
            return k;
        }

        private static boolean isSign(int what) {
            return isDyadic(what) || what == T_NOT;
        }

        private static boolean isDyadic(int what) {
            return what >= T_PLUS && what <= T_ATLEAST && what != T_NOT || what == T_OPWORD;
        }

        private static boolean isMonadic(int what) {
            return what == T_PLUS || what == T_MINUS || what == T_NOT || what == T_OPWORD;
        }

        /* Words are greater than the numbers of all tokens. */
        private long signName(int t) {
            return tokens.sort[t] == T_OPWORD ? tokens.word[t] : tokens.sort[t];
        }

        private void takeTag(int k) {
            if (look() != T_TAG) {
                refuse();
            }
            tree.name[k] = tokens.word[current()];
            tree.spot[k] = at();
            now++;
        }

        private int identity() {
            int k = make(IDENTITY);
            tree.declared[k] = declarer(false);
            takeTag(k);
            enterBy(T_EQUAL);
            attach(k, unit());
            opened--;
            return k;
        }

        private int variable() {
            int k = generator(VARIABLE);
            takeTag(k);
            if (look() == T_BECOMES) {
                enter();
                attach(k, unit());
                opened--;
                tree.data[k] |= WITH_UNIT;
            }
            return k;
        }

        private int generator(int what) {
            int k = make(what);
            tree.data[k] = look() == T_HEAP ? ON_HEAP : 0;
            enter();
            if (look() == T_LEFT && sortAt(now + 1) != T_RIGHT) {
                enter();
                attach(k, unit());
                expect(T_COLON);
                attach(k, unit());
                tree.data[k] |= WITH_BOUNDS;
                tree.declared[k] = elements();
            } else {
                tree.declared[k] = declarer(false);
            }
            opened--;
            return k;
        }

        /* From the ] of a DECLARER on: it ends what its [ opened, and opens for what follows. */
        private int elements() {
            if (look() != T_RIGHT) {
                refuse();
            }
            opened--;
            enter();
            int m = declarer(false);
            opened--;
            return tree.modes.wrap(M_ROW, m);
        }

        private boolean startsDeclarer(int t) {
            switch (sortAt(t)) {
                case T_INT: case T_LONG: case T_BOOL: case T_VOID: case T_MODEWORD: case T_REF: case T_PROC:
                case T_LEFT: case T_STRUCT: case T_UNION:
                    return true;
                default:
                    return false;
            }
        }

        /* The token behind a DECLARER; -1 if that isn't well written, or opens too much: then its reading refuses it. */
        private int behind(int t, int depth) {
            int i = t;
            for (int guard = 0; guard <= TEXT_MOST; guard++) {
                switch (sortAt(i)) {
                    case T_INT: case T_LONG: case T_BOOL: case T_VOID: case T_MODEWORD:
                        return i + 1;
                    case T_REF:
                        i++;
                        break;
                    case T_LEFT:
                        if (sortAt(i + 1) != T_RIGHT) {
                            return -1;
                        }
                        i += 2;
                        break;
                    case T_PROC:
                        i = sortAt(i + 1) == T_OPEN ? behindList(i + 1, false, depth) : i + 1;
                        break;
                    case T_STRUCT:
                        return behindList(i + 1, true, depth);
                    case T_UNION:
                        return behindList(i + 1, false, depth);
                    default:
                        return -1;
                }
            }
            return -1;
        }

        private int behindList(int t, boolean tags, int depth) {
            if (sortAt(t) != T_OPEN || depth >= OPEN_MOST) {
                return -1;
            }
            int i = t + 1;
            for (int guard = 0; guard <= TEXT_MOST; guard++) {
                i = behind(i, depth + 1);
                if (i < 0 || tags && sortAt(i) != T_TAG) {
                    return -1;
                }
                i = tags ? i + 1 : i;
                if (sortAt(i) == T_CLOSE) {
                    return i + 1;
                }
                if (sortAt(i) != T_COMMA) {
                    return -1;
                }
                i++;
            }
            return -1;
        }

        /* BOUNDS are skipped by their brackets alone: what is wrong within them is refused when they are read. */
        private int behindGenerator(int t) {
            int i = t + 1;
            if (sortAt(i) != T_LEFT || sortAt(i + 1) == T_RIGHT) {
                return behind(i, opened);
            }
            int brackets = 0;
            for (; i < tokens.count; i++) {
                if (sortAt(i) == T_LEFT) {
                    brackets++;
                } else if (sortAt(i) == T_RIGHT) {
                    brackets--;
                }
                if (brackets == 0) {
                    return behind(i + 1, opened);
                }
            }
            return -1;
        }

        private int declarer(boolean voidToo) {
            switch (look()) {
                case T_INT:
                    now++;
                    return M_INT;
                case T_LONG:
                    now++;
                    return M_LONG;
                case T_BOOL:
                    now++;
                    return M_BOOL;
                case T_VOID:
                    if (!voidToo) {
                        note(FAULT_MODE);
                    }
                    now++;
                    return M_VOID;
                case T_MODEWORD:
                    now++;
                    return ALIAS + tokens.value[now - 1];
                case T_REF: {
                    enter();
                    int m = declarer(false);
                    opened--;
                    return tree.modes.wrap(M_REF, m);
                }
                case T_LEFT:
                    enter();
                    return elements();
                case T_PROC:
                    return procDeclarer();
                case T_STRUCT:
                    now++;
                    return listDeclarer(M_STRUCT, 0);
                case T_UNION: {
                    int place = at();
                    now++;
                    int m = listDeclarer(M_UNION, 0);
                    unionAt[m] = place;
                    return m;
                }
                default:
                    refuse();
                    return M_INT;
            }
        }

        private int procDeclarer() {
            enter();
            int m;
            if (look() == T_OPEN) {
                m = listDeclarer(M_PROC, 1);
            } else {
                m = tree.modes.wrap(M_PROC, declarer(true));
            }
            opened--;
            return m;
        }

        /* Fields, members or parameters; then, of a PROC, what it yields. */
        private int listDeclarer(int what, int yields) {
            int base = gathered;
            enterBy(T_OPEN);
            for (int n = 0; n <= UNITS_MOST; n++) {
                if (n == UNITS_MOST) {
                    refuse();
                }
                int m = declarer(false);
                push(m, what == M_STRUCT ? fieldName(base) : 0);
                if (look() != T_COMMA) {
                    break;
                }
                now++;
            }
            leave(T_CLOSE);
            if (yields > 0) {
                push(declarer(true), 0);
            }
            int made = tree.modes.begin(what);
            for (int i = base; i < gathered; i++) {
                tree.modes.extend(gather[i], gatherName[i]);
            }
            gathered = base;
            return made;
        }

        private long fieldName(int base) {
            long name = tokens.word[current()];
            if (look() != T_TAG) {
                refuse();
            }
            for (int i = base; i < gathered; i++) {
                if (gatherName[i] == name) {
                    note(FAULT_TWICE);
                }
            }
            now++;
            return name;
        }

        private int unit() {
            if (look() == T_SKIP) {
                return leaf(SKIP, 0);
            }
            if (startsRoutine(now)) {
                return routine(0, UNITS_MOST);
            }
            int left = look() == T_NIL ? leaf(NIL, 0) : formula();
            int place = at();
            int what = look();
            if (what == T_BECOMES) {
                enter();
                int right = unit();
                opened--;
                return whole(ASSIGNATION, place, left, right);
            }
            if (what == T_IS || what == T_ISNT) {
                enter();
                int right = look() == T_NIL ? leaf(NIL, 0) : formula();
                opened--;
                int k = whole(IDENTICAL, place, left, right);
                tree.data[k] = what == T_ISNT ? 1 : 0;
                return k;
            }
            return left;
        }

        private boolean startsRoutine(int t) {
            if (sortAt(t) == T_OPEN) {
                int b = startsDeclarer(t + 1) ? behind(t + 1, opened) : -1;
                return sortAt(b) == T_TAG && (sortAt(b + 1) == T_COMMA || sortAt(b + 1) == T_CLOSE);
            }
            return startsDeclarer(t) && sortAt(behind(t, opened)) == T_COLON;
        }

        private int routine(int least, int most) {
            int k = make(ROUTINE);
            int from = tree.listCount;
            if (look() == T_OPEN) {
                enter();
                parameters(from, least, most);
                leave(T_CLOSE);
            }
            int count = tree.listCount - from;
            int yields = declarer(true);
            int m = tree.modes.begin(M_PROC);
            for (int i = from; i < from + count; i++) {
                tree.modes.extend(tree.listMode[i], 0);
            }
            tree.modes.extend(yields, 0);
            tree.declared[k] = m;
            tree.data[k] = from;
            tree.more[k] = count;
            enterBy(T_COLON);
            attach(k, unit());
            opened--;
            return k;
        }

        /* An OP'S parameters (least above 0) are refused at the , or ) that makes them too many or too few. */
        private void parameters(int from, int least, int most) {
            for (int n = 1; n <= UNITS_MOST + 1; n++) {
                if (n > UNITS_MOST) {
                    refuse();
                }
                int m = declarer(false);
                if (look() != T_TAG) {
                    refuse();
                }
                long name = tokens.word[current()];
                for (int i = from; i < tree.listCount; i++) {
                    if (tree.listName[i] == name) {
                        note(FAULT_TWICE);
                    }
                }
                tree.list(name, m);
                now++;
                if (look() != T_COMMA) {
                    if (n < least) {
                        refuse();
                    }
                    return;
                }
                if (least > 0 && n >= most) {
                    refuse();
                }
                now++;
            }
        }

        private int formula() {
            int base = height;
            pushOperand(operand(), -1);
            for (int guard = 0; guard <= TEXT_MOST && isDyadic(look()); guard++) {
                int sign = current();
                reduce(base, tokens.priority(sign));
                now++;
                pushOperand(operand(), sign);
            }
            reduce(base, 0);
            height = base;
            return operands[base];
        }

        private void pushOperand(int k, int sign) {
            if (height < operands.length) {
                operands[height] = k;
                signs[height] = sign;
                height++;
            }
        }

        /* Joins the latest operands as long as the sign between them binds as close as what comes. */
        private void reduce(int base, int priority) {
            while (height - base > 1 && tokens.priority(signs[height - 1]) >= priority) {
                int sign = signs[height - 1];
                int k = whole(DYADIC, tokens.at[sign], operands[height - 2], operands[height - 1]);
                tree.name[k] = signName(sign);
                height--;
                operands[height - 1] = k;
            }
        }

        private int operand() {
            int what = look();
            boolean edge = what == T_LWB || what == T_UPB;
            if (!edge && !isMonadic(what)) {
                return secondary();
            }
            int k = make(edge ? EDGE : MONADIC);
            tree.data[k] = what == T_UPB ? 1 : 0;
            tree.name[k] = edge ? 0 : signName(current());
            enter();
            attach(k, operand());
            opened--;
            return k;
        }

        private int secondary() {
            int what = look();
            if (what == T_LOC || what == T_HEAP) {
                return generator(GENERATOR);
            }
            if (what == T_TAG && sortAt(now + 1) == T_OF) {
                int k = make(SELECTION);
                takeTag(k);
                enter();
                attach(k, secondary());
                opened--;
                return k;
            }
            return primary();
        }

        private int primary() {
            int k = base();
            for (int guard = 0; guard <= TEXT_MOST; guard++) {
                if (look() == T_OPEN) {
                    k = call(k);
                } else if (look() == T_LEFT) {
                    k = slice(k);
                } else {
                    return k;
                }
            }
            return k;
        }

        private int call(int called) {
            int k = make(CALL);
            attach(k, called);
            enter();
            units(k, 0);
            leave(T_CLOSE);
            return k;
        }

        /* UNITS with commas between, behind so many; how many they are then. */
        private int units(int k, int before) {
            int n = before;
            for (; n <= UNITS_MOST; n++) {
                if (n == UNITS_MOST) {
                    refuse();
                }
                attach(k, unit());
                if (look() != T_COMMA) {
                    return n + 1;
                }
                now++;
            }
            return n;
        }

        private int slice(int sliced) {
            int k = make(SLICE);
            attach(k, sliced);
            enter();
            attach(k, unit());
            if (look() == T_COLON) {
                now++;
                tree.kind[k] = TRIM;
                attach(k, unit());
            }
            leave(T_RIGHT);
            return k;
        }

        private int leaf(int what, int data) {
            int k = make(what);
            tree.data[k] = data;
            now++;
            return k;
        }

        private int base() {
            switch (look()) {
                case T_NUMBER:
                    return leaf(NUMBER, tokens.value[current()]);
                case T_TRUE:
                    return leaf(TRUTH, 1);
                case T_FALSE:
                    return leaf(TRUTH, 0);
                case T_TAG: {
                    int k = make(TAG);
                    takeTag(k);
                    return k;
                }
                case T_LONG:
                    if (sortAt(now + 1) == T_NUMBER) {
                        int k = leaf(LONG_NUMBER, tokens.value[Math.min(now + 1, tokens.count - 1)]);
                        now++;
                        return k;
                    }
                    return cast();
                case T_OPEN:
                    return round();
                case T_BEGIN: {
                    enter();
                    int k = serial(false, -1, at());
                    leave(T_ENDWORD);
                    return k;
                }
                case T_IF:
                    return ifClause();
                case T_CASE:
                    return caseClause();
                case T_PRINT: {
                    int k = make(PRINT);
                    now++;
                    enterBy(T_OPEN);
                    attach(k, unit());
                    leave(T_CLOSE);
                    return k;
                }
                case T_FOR: case T_FROM: case T_BY: case T_TO: case T_WHILE: case T_DO:
                    return loop();
                default:
                    return cast();
            }
        }

        private int cast() {
            int k = make(CAST);
            tree.declared[k] = declarer(true);
            enterBy(T_OPEN);
            attach(k, serial(false, -1, at()));
            leave(T_CLOSE);
            return k;
        }

        /* ( SERIAL ), or a DISPLAY. */
        private int round() {
            int place = at();
            enter();
            if (look() == T_CLOSE) {
                int k = makeAt(DISPLAY, place);
                leave(T_CLOSE);
                return k;
            }
            int begins = at();
            int part = item();
            int k;
            if (unitLast && look() == T_COMMA) {
                k = makeAt(DISPLAY, place);
                attach(k, part);
                now++;
                units(k, 1);
            } else {
                k = serial(true, part, begins);
            }
            leave(T_CLOSE);
            return k;
        }

        private int ifClause() {
            int k = make(IF);
            enter();
            attach(k, serial(false, -1, at()));
            expect(T_THEN);
            attach(k, serial(false, -1, at()));
            if (look() == T_ELSE) {
                now++;
                attach(k, serial(false, -1, at()));
            }
            leave(T_FI);
            return k;
        }

        private int caseClause() {
            int k = make(CASE);
            enter();
            attach(k, serial(false, -1, at()));
            if (look() == T_WHEN) {
                now++;
                tree.kind[k] = WHEN;
                choices(k);
            } else {
                expect(T_IN);
                attach(k, unit());
                expect(T_COMMA);
                tree.data[k] = units(k, 1);
            }
            if (look() == T_OUT) {
                now++;
                attach(k, serial(false, -1, at()));
            }
            leave(T_ESAC);
            return k;
        }

        /* They wait together, for the UNITS may have lists of their own. */
        private void choices(int k) {
            int base = gathered;
            for (int n = 0; n <= UNITS_MOST; n++) {
                if (n == UNITS_MOST) {
                    refuse();
                }
                enterBy(T_OPEN);
                int m = declarer(false);
                push(m, tokens.word[current()]);
                expect(T_TAG);
                leave(T_CLOSE);
                enterBy(T_COLON);
                attach(k, unit());
                opened--;
                if (look() != T_COMMA) {
                    break;
                }
                now++;
            }
            tree.data[k] = tree.listCount;
            tree.more[k] = gathered - base;
            for (int i = base; i < gathered; i++) {
                tree.list(gatherName[i], gather[i]);
            }
            gathered = base;
        }

        /* Whichever word is the first opens; enter() would pass it, so it is counted here. */
        private int loop() {
            int k = make(LOOP);
            enter();
            now--;
            if (look() == T_FOR) {
                now++;
                takeTag(k);
                tree.data[k] |= WITH_FOR;
            }
            loopNumber(k, T_FROM, WITH_FROM);
            loopNumber(k, T_BY, WITH_BY);
            loopNumber(k, T_TO, WITH_TO);
            if (look() == T_WHILE) {
                now++;
                attach(k, serial(false, -1, at()));
                tree.data[k] |= WITH_WHILE;
            }
            expect(T_DO);
            attach(k, serial(false, -1, at()));
            leave(T_OD);
            return k;
        }

        private void loopNumber(int k, int word, int flag) {
            if (look() == word) {
                now++;
                attach(k, unit());
                tree.data[k] |= flag;
            }
        }

        /* Numbers the nodes anew, each ahead of its parts. */
        private void arrange(int root, Program to) {
            to.start();
            int t = root;
            for (int guard = 0; guard <= NODES_MOST; guard++) {
                order[t] = place(t, to);
                int from = t;
                t = kid[t];
                for (int climb = 0; climb <= NODES_MOST && t < 0 && from >= 0 && from != root; climb++) {
                    t = next[from];
                    from = tree.up[from];
                }
                if (t < 0) {
                    break;
                }
            }
            for (int k = to.count - 1; k > 0; k--) {
                int u = to.up[k];
                to.end[u] = Math.max(to.end[u], to.end[k]);
            }
            for (int i = 0; i < tree.listCount; i++) {
                to.list(tree.listName[i], tree.listMode[i]);
            }
        }

        private int place(int t, Program to) {
            int k = to.make(tree.kind[t], tree.place[t]);
            to.up[k] = tree.up[t] < 0 ? -1 : order[tree.up[t]];
            to.data[k] = tree.data[t];
            to.more[k] = tree.more[t];
            to.name[k] = tree.name[t];
            to.spot[k] = tree.kind[t] == ROUTINE ? -1 : tree.spot[t];
            to.declared[k] = tree.declared[t];
            return k;
        }
    }

    /** Finds which modes are ONE: all that unfold alike get one number. */
    private static final class Unfolder {
        /* Modes whose parts are modes of the table itself; two programs' modes fit into it side by side. */
        final Modes table = new Modes(MODES_MOST * 2, PARTS_MOST * 2);
        final int[] group = new int[MODES_MOST * 2];
        final int[] finer = new int[MODES_MOST * 2];
        final int[] stack = new int[PARTS_MOST];
        final boolean[] seen = new boolean[MODES_MOST];
        final int[] number = new int[MODES_MOST];
        Modes raw;
        int[] definition;
        int named;

        void take(Modes written, int[] definitions, int count) {
            raw = written;
            definition = definitions;
            named = Math.min(count, definitions.length);
        }

        /* The first INDICANT that comes back to itself in a way that it must not; -1 without. */
        int circular() {
            for (int i = 0; i < named; i++) {
                if (comesBack(i, true) || comesBack(i, false)) {
                    return i;
                }
            }
            return -1;
        }

        /* Whether an INDICANT comes back to itself without a STRUCT, or else without REF, PROC, ROW. */
        private boolean comesBack(int start, boolean throughPointers) {
            boolean[] done = seen;
            for (int i = 0; i < done.length; i++) {
                done[i] = false;
            }
            int height = 1;
            stack[0] = definition[start];
            for (int guard = 0; guard < TURNS_MOST && height > 0; guard++) {
                height--;
                int m = stack[height];
                if (m == ALIAS + start) {
                    return true;
                }
                if (m >= ALIAS) {
                    int i = m - ALIAS;
                    if (i < named && !done[i]) {
                        done[i] = true;
                        stack[height] = definition[i];
                        height++;
                    }
                } else if (m >= 0 && mayPass(raw.sort[m], throughPointers)) {
                    height = pushParts(m, height);
                }
            }
            return false;
        }

        private static boolean mayPass(int sort, boolean throughPointers) {
            if (sort == M_REF || sort == M_PROC || sort == M_ROW) {
                return throughPointers;
            }
            return sort == M_UNION || sort == M_STRUCT && !throughPointers;
        }

        private int pushParts(int m, int height) {
            int top = height;
            for (int i = 0; i < raw.count[m] && top < stack.length; i++) {
                stack[top] = raw.part[raw.first[m] + i];
                top++;
            }
            return top;
        }

        private int resolve(int m) {
            int found = m;
            for (int guard = 0; guard <= named && found >= ALIAS; guard++) {
                int i = found - ALIAS;
                found = i < named ? definition[i] : M_INT;
            }
            return found >= 0 && found < raw.size ? found : M_INT;
        }

        /* Brings the modes as they are written into a program's table. */
        void unfold(Modes to) {
            table.empty();
            for (int m = 0; m < raw.size; m++) {
                table.begin(raw.sort[m]);
                if (raw.sort[m] == M_UNION) {
                    members(m);
                } else {
                    for (int i = raw.first[m]; i < raw.first[m] + raw.count[m]; i++) {
                        table.extend(resolve(raw.part[i]), raw.label[i]);
                    }
                }
            }
            refine();
            to.start();
            for (int m = 0; m < table.size; m++) {
                number[m] = m <= M_VOID ? m : -1;
            }
            numberModes(to.size);
            for (int m = M_VOID + 1; m < table.size; m++) {
                if (group[m] == m) {
                    bring(m, to);
                }
            }
        }

        /* The members of a UNION, with those of the UNIONS in it. */
        private void members(int union) {
            for (int i = 0; i < seen.length; i++) {
                seen[i] = false;
            }
            int height = pushParts(union, 0);
            for (int guard = 0; guard < TURNS_MOST && height > 0; guard++) {
                height--;
                int m = resolve(stack[height]);
                if (seen[m]) {
                    continue;
                }
                seen[m] = true;
                if (raw.sort[m] == M_UNION) {
                    height = pushParts(m, height);
                } else {
                    table.extend(m, 0);
                }
            }
        }

        /* Modes stay in one group, named by its first, as long as nothing tells them apart. */
        private void refine() {
            for (int m = 0; m < table.size; m++) {
                group[m] = 0;
            }
            int groups = 0;
            for (int round = 0; round <= table.size; round++) {
                int found = 0;
                for (int m = 0; m < table.size; m++) {
                    finer[m] = m;
                    for (int n = 0; n < m && finer[m] == m; n++) {
                        if (finer[n] == n && group[n] == group[m] && alike(m, n)) {
                            finer[m] = n;
                        }
                    }
                    found += finer[m] == m ? 1 : 0;
                }
                System.arraycopy(finer, 0, group, 0, table.size);
                if (found == groups) {
                    return;
                }
                groups = found;
            }
        }

        private boolean alike(int m, int n) {
            if (table.sort[m] != table.sort[n]) {
                return false;
            }
            if (table.sort[m] == M_UNION) {
                return covers(m, n) && covers(n, m);
            }
            if (table.count[m] != table.count[n]) {
                return false;
            }
            for (int i = 0; i < table.count[m]; i++) {
                int a = table.first[m] + i;
                int b = table.first[n] + i;
                if (table.label[a] != table.label[b] || group[table.part[a]] != group[table.part[b]]) {
                    return false;
                }
            }
            return true;
        }

        private boolean covers(int m, int n) {
            for (int i = 0; i < table.count[n]; i++) {
                boolean found = false;
                for (int j = 0; j < table.count[m] && !found; j++) {
                    found = group[table.part[table.first[n] + i]] == group[table.part[table.first[m] + j]];
                }
                if (!found) {
                    return false;
                }
            }
            return true;
        }

        private void numberModes(int from) {
            int n = from;
            for (int m = M_VOID + 1; m < table.size; m++) {
                if (group[m] == m) {
                    number[m] = n;
                    n++;
                }
            }
            for (int m = M_VOID + 1; m < table.size; m++) {
                number[m] = number[group[m]];
            }
        }

        private void bring(int m, Modes to) {
            int made = to.begin(table.sort[m]);
            for (int i = table.first[m]; i < table.first[m] + table.count[m]; i++) {
                int part = number[table.part[i]];
                if (table.sort[m] != M_UNION || !to.has(made, part)) {
                    to.extend(part, table.label[i]);
                }
            }
        }

        /* The number of a mode as it is written. */
        int numberOf(int written) {
            return written < 0 ? -1 : number[resolve(written)];
        }

        /* Where the first UNION stands that must not be; -1 without. */
        int wrongUnion(int[] unionAt, Modes modes) {
            int found = -1;
            for (int m = 0; m < raw.size; m++) {
                if (raw.sort[m] == M_UNION && (found < 0 || unionAt[m] < found) && isWrong(number[m], modes)) {
                    found = unionAt[m];
                }
            }
            return found;
        }

        private static boolean isWrong(int union, Modes modes) {
            if (modes.count[union] < 2) {
                return true;
            }
            for (int i = 0; i < modes.count[union]; i++) {
                int m = modes.hop(modes.partAt(union, i));
                for (int guard = 0; guard <= modes.size && m >= 0; guard++) {
                    if (modes.has(union, m)) {
                        return true;
                    }
                    m = modes.hop(m);
                }
            }
            return false;
        }

        boolean same(Modes a, int m, Modes b, int n) {
            table.empty();
            join(a);
            int shift = table.size;
            join(b);
            refine();
            return group[m] == group[n + shift];
        }

        private void join(Modes modes) {
            int shift = table.size;
            for (int m = 0; m < modes.size; m++) {
                table.begin(modes.sort[m]);
                for (int i = modes.first[m]; i < modes.first[m] + modes.count[m]; i++) {
                    table.extend(modes.part[i] + shift, modes.label[i]);
                }
            }
        }
    }

    /** Judges the nodes of a program; the first fault is told by an IllegalStateException. */
    private static final class Judge {
        Program p;
        Modes modes;
        final int[] want = new int[NODES_MOST];
        int target;
        int fault;
        int faultAt;

        void judge(Program program) {
            p = program;
            modes = program.modes;
            fault = 0;
            faultAt = -1;
            for (int k = 0; k < p.count; k++) {
                if (p.kind[k] == SERIAL) {
                    declare(k);
                }
                for (int c = k; c >= 0 && p.end[c] == k + 1; c = p.up[c]) {
                    endParts(c);
                    p.mode[c] = modeOf(c);
                    bringOn(c, wanted(c));
                }
            }
            modes.weigh();
        }

        private void stop(int what, int place) {
            fault = what;
            faultAt = place;
            throw new IllegalStateException("the text has a fault");
        }

        private void declare(int serial) {
            int slot = 0;
            for (int d = serial + 1; d < p.end[serial]; d = p.end[d]) {
                if (p.kind[d] != IDENTITY && p.kind[d] != VARIABLE) {
                    continue;
                }
                for (int e = serial + 1; e < d; e = p.end[e]) {
                    if ((p.kind[e] == IDENTITY || p.kind[e] == VARIABLE) && p.name[e] == p.name[d]) {
                        stop(FAULT_TWICE, p.spot[d]);
                    }
                }
                p.more[d] = slot;
                slot++;
            }
            p.data[serial] = slot;
        }

        private void bringOn(int c, int how) {
            if (how == W_STRONG) {
                strong(c, target);
            } else if (how != W_NOTHING) {
                needMode(c);
                if (p.isClause(c)) {
                    strong(c, p.mode[c]);
                }
                if (how != W_FIRM) {
                    come(c, how);
                }
            }
        }

        /* How a node must come behind it has been judged; of STRONG the mode is in target. */
        private int wanted(int c) {
            int u = p.up[c];
            boolean first = c == u + 1;
            if (u < 0) {
                return strongTo(M_VOID);
            }
            switch (p.kind[u]) {
                case SERIAL:
                    return p.end[c] == p.end[u] || p.isDeclaration(c) ? W_NOTHING : strongTo(M_VOID);
                case IDENTITY: case CAST:
                    return strongTo(p.declared[u]);
                case VARIABLE:
                    return (p.data[u] & WITH_UNIT) != 0 && p.end[c] == p.end[u] ? strongTo(p.declared[u]) : W_INT;
                case ASSIGNATION:
                    return first ? W_REF : strongTo(modes.inner(p.came(u + 1)));
                case ROUTINE:
                    return strongTo(modes.inner(p.declared[u]));
                case DYADIC: case MONADIC:
                    return W_FIRM;
                case EDGE:
                    return W_ROW;
                case SELECTION:
                    return W_STRUCT;
                case GENERATOR:
                    return W_INT;
                case CALL:
                    return first ? W_PROC : W_NOTHING;
                case SLICE: case TRIM:
                    return first ? W_ROW : W_INT;
                case IF:
                    return first ? W_BOOL : W_NOTHING;
                case CASE:
                    return first ? W_INT : W_NOTHING;
                case WHEN:
                    return first ? W_UNION : W_NOTHING;
                case LOOP:
                    return p.end[c] == p.end[u] ? strongTo(M_VOID) : p.inTurn(u, c) ? W_BOOL : W_INT;
                case PRINT:
                    return W_TOLD;
                default:
                    return W_NOTHING;
            }
        }

        private int strongTo(int m) {
            target = m;
            return W_STRONG;
        }

        /* What comes only behind all parts have been judged. */
        private void endParts(int k) {
            if (p.kind[k] == CALL) {
                int proc = p.came(k + 1);
                int n = p.kids(k) - 1;
                if (n != modes.count[proc] - 1) {
                    stop(FAULT_COME, p.place[k]);
                }
                for (int i = 0; i < n; i++) {
                    strong(p.kidAt(k, i + 1), modes.partAt(proc, i));
                }
            } else if (p.kind[k] == IDENTICAL) {
                /* A clause isn't NIL itself, whatever its ENDS are; a SKIP can't stand there by the grammar. */
                boolean isNil = p.kind[k + 1] == NIL;
                int one = isNil ? p.kidAt(k, 1) : k + 1;
                bringOn(one, W_REF);
                strong(isNil ? k + 1 : p.kidAt(k, 1), p.came(one));
            } else if (p.kind[k] == DYADIC || p.kind[k] == MONADIC) {
                findOperation(k);
            }
        }

        private void spread(int k, int m) {
            for (int j = k + 1; j < p.end[k]; j++) {
                want[j] = -1;
            }
            want[k] = m;
        }

        private void spreadEnds(int k) {
            for (int kid = k + 1; kid < p.end[k]; kid = p.end[kid]) {
                boolean isEnd = p.kind[k] == SERIAL ? p.end[kid] == p.end[k] : kid > k + 1;
                want[kid] = isEnd ? want[k] : -1;
            }
        }

        /* SKIP, NIL, DISPLAY, and a clause all of whose ENDS are these, have none. */
        private void needMode(int k) {
            if (p.mode[k] < 0) {
                stop(FAULT_COME, p.place[k]);
            }
        }

        private void strong(int k, int m) {
            spread(k, m);
            for (int j = k; j < p.end[k]; j++) {
                if (want[j] < 0) {
                    continue;
                }
                if (p.isClause(j)) {
                    spreadEnds(j);
                } else if (p.kind[j] == DISPLAY) {
                    spreadUnits(j);
                } else if (p.kind[j] != SKIP) {
                    comeStrong(j, want[j]);
                }
            }
        }

        private void spreadUnits(int k) {
            int m = want[k];
            boolean row = modes.sort[m] == M_ROW;
            if (!row && (modes.sort[m] != M_STRUCT || modes.count[m] != p.kids(k))) {
                stop(FAULT_COME, p.place[k]);
            }
            int i = 0;
            for (int kid = k + 1; kid < p.end[k]; kid = p.end[kid]) {
                want[kid] = row ? modes.inner(m) : modes.partAt(m, i);
                i++;
            }
        }

        private void comeStrong(int k, int m) {
            if (p.kind[k] == NIL) {
                if (modes.sort[m] != M_REF) {
                    stop(FAULT_COME, p.place[k]);
                }
                return;
            }
            int aim = m;
            for (int rows = 0; rows <= modes.size && aim >= 0; rows++) {
                if (firm(k, aim, true)) {
                    p.rows[k] = rows;
                    return;
                }
                aim = modes.sort[aim] == M_ROW ? modes.inner(aim) : -1;
            }
            if (m != M_VOID) {
                stop(FAULT_COME, p.place[k]);
            }
            p.hops[k] = callsFrom(p.mode[k]);
            p.tail[k] = STEP_VOID;
        }

        private int callsFrom(int m) {
            int calls = 0;
            int at = m;
            while (calls <= modes.size && modes.sort[at] == M_PROC && modes.count[at] == 1) {
                at = modes.inner(at);
                calls++;
            }
            return calls;
        }

        /* Whether a node comes to a mode by as few CALLS and FOLLOWS as may be, and UNITE (or WIDEN) behind them. */
        private boolean firm(int k, int aim, boolean widen) {
            int m = p.mode[k];
            for (int h = 0; h <= modes.size && m >= 0; h++) {
                int last = m == aim ? 0 : modes.unites(m, aim) ? STEP_UNITE
                        : widen && m == M_INT && aim == M_LONG ? STEP_WIDEN : -1;
                if (last >= 0) {
                    p.hops[k] = h;
                    p.tail[k] = last;
                    return true;
                }
                m = modes.hop(m);
            }
            return false;
        }

        /* SOFT (of W_REF), MEEK or WEAK. */
        private void come(int k, int how) {
            int m = p.mode[k];
            for (int h = 0; h <= modes.size && m >= 0; h++) {
                if (fits(m, how)) {
                    p.hops[k] = h;
                    return;
                }
                m = modes.hop(m);
            }
            stop(FAULT_COME, p.place[k]);
        }

        private boolean fits(int m, int how) {
            int sort = modes.sort[m];
            int within = sort == M_REF ? modes.sort[modes.inner(m)] : sort;
            switch (how) {
                case W_INT: return sort == M_INT;
                case W_BOOL: return sort == M_BOOL;
                case W_UNION: return sort == M_UNION;
                case W_PROC: return sort == M_PROC && modes.count[m] > 1;
                case W_TOLD: return sort == M_INT || sort == M_LONG || sort == M_BOOL;
                case W_ROW: return within == M_ROW;
                case W_STRUCT: return within == M_STRUCT;
                default: return sort == M_REF;
            }
        }

        private int modeOf(int k) {
            switch (p.kind[k]) {
                case SERIAL:
                    return p.mode[p.lastKid(k)];
                case IF: case CASE: case WHEN:
                    return firstMode(k);
                case ASSIGNATION:
                    return p.came(k + 1);
                case IDENTICAL: case TRUTH:
                    return M_BOOL;
                case ROUTINE: case CAST:
                    return p.declared[k];
                case GENERATOR:
                    return modes.refTo(p.declared[k]);
                case EDGE: case NUMBER:
                    return M_INT;
                case LONG_NUMBER:
                    return M_LONG;
                case LOOP:
                    return M_VOID;
                case PRINT:
                    p.data[k] = p.came(k + 1);
                    return M_VOID;
                case TAG:
                    return tagMode(k);
                case CALL:
                    return modes.inner(p.came(k + 1));
                case SELECTION:
                    return selected(k);
                case SLICE:
                    return partOf(p.came(k + 1), -1);
                case TRIM:
                    return rowIn(p.came(k + 1));
                case DYADIC: case MONADIC:
                    return p.mode[k];
                default:
                    return -1;
            }
        }

        private int firstMode(int k) {
            for (int kid = p.end[k + 1]; kid < p.end[k]; kid = p.end[kid]) {
                if (p.mode[kid] >= 0) {
                    return p.mode[kid];
                }
            }
            return -1;
        }

        private int rowIn(int m) {
            return modes.sort[m] == M_REF ? modes.inner(m) : m;
        }

        /* A field's mode, or an element's (field -1); of a REF it is a REF to it. */
        private int partOf(int m, int field) {
            int whole = rowIn(m);
            int part = field < 0 ? modes.inner(whole) : modes.partAt(whole, field);
            return modes.sort[m] == M_REF ? modes.refTo(part) : part;
        }

        private int selected(int k) {
            int m = p.came(k + 1);
            int field = modes.field(rowIn(m), p.name[k]);
            if (field < 0) {
                stop(FAULT_NONE, p.place[k]);
            }
            p.data[k] = field;
            return partOf(m, field);
        }

        /* Finds the declaration of a TAG; the node gets its RANGE and its number in that. */
        private int tagMode(int k) {
            for (int c = k; p.up[c] >= 0; c = p.up[c]) {
                int u = p.up[c];
                int d = p.kind[u] == SERIAL ? declaredSerially(u, p.name[k]) : -1;
                int slot = d >= 0 ? p.more[d] : declaredIn(u, c, p.name[k]);
                if (slot >= 0) {
                    p.data[k] = u;
                    p.more[k] = slot;
                    p.meant[k] = d >= 0 ? d : u;
                    uses(k, u);
                    return d < 0 ? slotMode(u, c, slot)
                            : p.kind[d] == IDENTITY ? p.declared[d] : modes.refTo(p.declared[d]);
                }
            }
            stop(FAULT_NONE, p.place[k]);
            return -1;
        }

        private int declaredSerially(int serial, long name) {
            for (int d = serial + 1; d < p.end[serial]; d = p.end[d]) {
                if ((p.kind[d] == IDENTITY || p.kind[d] == VARIABLE) && p.name[d] == name) {
                    return d;
                }
            }
            return -1;
        }

        private int slotMode(int range, int kid, int slot) {
            if (p.kind[range] == LOOP) {
                return M_INT;
            }
            return p.listMode[p.data[range] + (p.kind[range] == WHEN ? choiceOf(range, kid) : slot)];
        }

        private int choiceOf(int when, int kid) {
            int i = -1;
            for (int c = when + 1; c < kid; c = p.end[c]) {
                i++;
            }
            return i;
        }

        private int declaredIn(int u, int c, long name) {
            switch (p.kind[u]) {
                case ROUTINE:
                    for (int i = 0; i < p.more[u]; i++) {
                        if (p.listName[p.data[u] + i] == name) {
                            return i;
                        }
                    }
                    return -1;
                case WHEN: {
                    int i = choiceOf(u, c);
                    return i >= 0 && i < p.more[u] && p.listName[p.data[u] + i] == name ? 0 : -1;
                }
                case LOOP:
                    return (p.data[u] & WITH_FOR) != 0 && p.name[u] == name && p.inTurn(u, c) ? 0 : -1;
                default:
                    return -1;
            }
        }

        /* The ROUTINES between a node and the RANGE of what it means use that RANGE. */
        private void uses(int k, int range) {
            for (int c = p.up[k]; c >= 0 && c != range; c = p.up[c]) {
                if (p.kind[c] == ROUTINE) {
                    p.spot[c] = Math.max(p.spot[c], range);
                }
            }
        }

        private void findOperation(int k) {
            for (int c = k; p.up[c] >= 0; c = p.up[c]) {
                int u = p.up[c];
                int op = p.kind[u] == SERIAL ? operationIn(u, k) : -1;
                if (op >= 0) {
                    p.meant[k] = op;
                    p.mode[k] = modes.inner(p.declared[op + 1]);
                    uses(k, u);
                    return;
                }
            }
            boolean two = p.kind[k] == DYADIC;
            for (int m = M_INT; m <= M_BOOL; m++) {
                int yields = two ? dyadicMode(p.name[k], m) : monadicMode(p.name[k], m);
                if (yields >= 0 && firm(k + 1, m, false) && (!two || firm(p.kidAt(k, 1), m, false))) {
                    p.data[k] = m;
                    p.mode[k] = yields;
                    return;
                }
            }
            stop(FAULT_OPERATION, p.place[k]);
        }

        private int operationIn(int serial, int k) {
            int n = p.kind[k] == DYADIC ? 2 : 1;
            for (int d = serial + 1; d < p.end[serial]; d = p.end[d]) {
                if (p.kind[d] != OPERATION || p.name[d] != p.name[k] || p.data[d] != n) {
                    continue;
                }
                int proc = p.declared[d + 1];
                if (firm(k + 1, modes.partAt(proc, 0), false)
                        && (n == 1 || firm(p.kidAt(k, 1), modes.partAt(proc, 1), false))) {
                    return d;
                }
            }
            return -1;
        }

        /* What a standard operation of two such operands yields; -1 if there is none. */
        private static int dyadicMode(long sign, int m) {
            if (sign > T_ATLEAST) {
                return -1;
            }
            switch ((int) sign) {
                case T_PLUS: case T_MINUS: case T_TIMES: case T_OVER: case T_REST:
                    return m == M_BOOL ? -1 : m;
                case T_LESS: case T_ATMOST: case T_MORE: case T_ATLEAST:
                    return m == M_BOOL ? -1 : M_BOOL;
                case T_EQUAL: case T_UNLIKE:
                    return M_BOOL;
                case T_AND: case T_OR:
                    return m == M_BOOL ? M_BOOL : -1;
                default:
                    return -1;
            }
        }

        private static int monadicMode(long sign, int m) {
            if (sign == T_PLUS || sign == T_MINUS) {
                return m == M_BOOL ? -1 : m;
            }
            if (sign == T_NOT) {
                return m == M_BOOL ? M_BOOL : -1;
            }
            if (sign == LENG) {
                return m == M_INT ? M_LONG : -1;
            }
            return sign == SHORTEN && m == M_LONG ? M_INT : -1;
        }
    }

    /**
     * The cells of a run: pending values as a stack, what the TAGS have, what the PLACES have, and the parts of objects
     * (STRUCTS, ROWS, UNIONS). Objects never change, so they may be shared; none is given back before the run ends.
     */
    private static final class Memory {
        final int[] tag = new int[CELLS];
        final long[] bits = new long[CELLS];
        int height;
        int used;
        final int[] first = new int[OBJECTS_MOST];
        final int[] count = new int[OBJECTS_MOST];
        final int[] lower = new int[OBJECTS_MOST];
        final int[] size = new int[OBJECTS_MOST];
        final int[] age = new int[OBJECTS_MOST];
        /* The mode of what is in a UNION. */
        final int[] member = new int[OBJECTS_MOST];
        int objects;

        void start() {
            height = 0;
            used = 0;
            objects = 0;
            set(NOTHING, UNDEFINED, 0);
        }

        void set(int cell, int what, long value) {
            tag[cell] = what;
            bits[cell] = value;
        }

        void copy(int to, int from) {
            tag[to] = tag[from];
            bits[to] = bits[from];
        }

        void push(int what, long value) {
            if (height < STACK_CELLS) {
                tag[height] = what;
                bits[height] = value;
                height++;
            }
        }

        /* The cell of the latest pending value. */
        int top() {
            return Math.max(height - 1, 0);
        }

        /* A new object whose parts are in new cells, or (from a cell on) in such as hold them already. */
        int make(int parts, int from, int shared) {
            int o = Math.min(objects, OBJECTS_MOST - 1);
            first[o] = shared >= 0 ? shared : OBJECT_AT + used;
            count[o] = parts;
            lower[o] = from;
            member[o] = -1;
            size[o] = 1;
            age[o] = 0;
            objects = o + 1;
            used = shared >= 0 ? used : Math.min(used + parts, OBJECT_CELLS - ELEMENTS_MOST);
            return o;
        }

        int object(int cell) {
            return (int) bits[cell];
        }

        int sizeOf(int cell) {
            return tag[cell] == OBJECT ? size[(int) bits[cell]] : 1;
        }

        int ageOf(int cell) {
            switch (tag[cell]) {
                case OBJECT: return age[(int) bits[cell]];
                case NAME: return bits[cell] == NIL_BITS ? 0 : (int) (bits[cell] / AGE_UNIT);
                case CODE: return (int) (bits[cell] / AGE_UNIT);
                default: return 0;
            }
        }

        int within(int cell) {
            return (int) (bits[cell] % AGE_UNIT);
        }

        /* Sizes and ages from an object on, the latest first: parts are made behind their whole. */
        void weigh(int from) {
            for (int o = objects - 1; o >= from; o--) {
                int sum = 1;
                int oldest = 0;
                for (int cell = first[o]; cell < first[o] + count[o]; cell++) {
                    sum += sizeOf(cell);
                    oldest = Math.max(oldest, ageOf(cell));
                }
                size[o] = sum;
                age[o] = oldest;
            }
        }
    }

    /** The PLACES of a run. What a PLACE has that isn't a STRUCT or ROW is in the memory's cell of that number. */
    private static final class Store {
        final Memory memory = new Memory();
        Modes modes;
        final int[] mode = new int[PLACE_CELLS];
        final int[] first = new int[PLACE_CELLS];
        final int[] count = new int[PLACE_CELLS];
        final int[] lower = new int[PLACE_CELLS];
        final int[] age = new int[PLACE_CELLS];
        int made;
        final int[] place = new int[PLACE_CELLS];
        final int[] cell = new int[PLACE_CELLS];
        int queued;

        void start(Modes programs) {
            modes = programs;
            made = 0;
        }

        /* A PLACE of a mode, of a ROW with elements; -1, and none is made, if there is no room. */
        int make(int m, int depth, int from, int elements) {
            int begun = made;
            boolean fits = add(m, depth, 1);
            if (fits && elements > 0) {
                lower[begun] = from;
                count[begun] = elements;
                first[begun] = made;
                fits = add(modes.inner(m), depth, elements);
            }
            if (!fits || !addFields(begun)) {
                made = begun;
                return -1;
            }
            return begun;
        }

        private boolean add(int m, int depth, int howMany) {
            if (made + howMany > PLACES_MOST) {
                return false;
            }
            for (int i = 0; i < howMany; i++) {
                mode[made] = m;
                age[made] = depth;
                first[made] = 0;
                count[made] = 0;
                lower[made] = 1;
                memory.tag[PLACE_AT + made] = modes.sort[m] == M_ROW ? PLAIN : UNDEFINED;
                made++;
            }
            return true;
        }

        /* Fields of all STRUCTS from a PLACE on, and of those that come thereby. */
        private boolean addFields(int from) {
            for (int p = from; p < made; p++) {
                int m = mode[p];
                if (modes.sort[m] != M_STRUCT) {
                    continue;
                }
                if (made + modes.weight[m] - 1 > PLACES_MOST) {
                    return false;
                }
                first[p] = made;
                count[p] = modes.count[m];
                for (int i = 0; i < modes.count[m]; i++) {
                    add(modes.partAt(m, i), age[p], 1);
                }
            }
            return true;
        }

        private void enqueue(int p, int c) {
            if (queued < PLACE_CELLS) {
                place[queued] = p;
                cell[queued] = c;
                queued++;
            }
        }

        /* A value in a cell, and a PLACE, from which PUT or copying begins. */
        void line(int p, int c) {
            queued = 0;
            enqueue(p, c);
        }

        /* Elements of a ROW'S PLACE, and the cells of a new ROW'S elements. */
        void lineElements(int row, int from, int object) {
            queued = 0;
            for (int i = 0; i < memory.count[object]; i++) {
                enqueue(first[row] + from + i, memory.first[object] + i);
            }
        }

        /* PUTS what is in line there, its parts come into the line: whether there is room for new elements. */
        boolean putOne(int i) {
            int p = place[i];
            int c = cell[i];
            int sort = modes.sort[mode[p]];
            boolean whole = memory.tag[c] == OBJECT;
            int o = whole ? memory.object(c) : 0;
            if (sort == M_ROW) {
                int elements = whole ? memory.count[o] : 0;
                int begun = made;
                if (!add(modes.inner(mode[p]), age[p], elements) || !addFields(begun)) {
                    return false;
                }
                memory.set(PLACE_AT + p, whole ? PLAIN : UNDEFINED, 0);
                first[p] = begun;
                count[p] = elements;
                lower[p] = whole ? memory.lower[o] : 1;
            } else if (sort != M_STRUCT) {
                memory.copy(PLACE_AT + p, c);
            }
            for (int j = 0; j < count[p]; j++) {
                enqueue(first[p] + j, whole ? memory.first[o] + j : NOTHING);
            }
            return true;
        }

        /* Copies what the PLACES in line have into their cells; fields and elements come into the line, too. */
        void copyLine() {
            for (int i = 0; i < queued; i++) {
                int p = place[i];
                int sort = modes.sort[mode[p]];
                if (sort == M_STRUCT || sort == M_ROW && memory.tag[PLACE_AT + p] != UNDEFINED) {
                    int o = memory.make(count[p], lower[p], -1);
                    memory.set(cell[i], OBJECT, o);
                    for (int j = 0; j < count[p]; j++) {
                        enqueue(first[p] + j, memory.first[o] + j);
                    }
                } else {
                    memory.copy(cell[i], PLACE_AT + p);
                }
            }
        }
    }

    /** The DRAWS of a run: by a seed, none (from left to right), or as told, to go through all ORDERS. */
    private static final class Draws {
        boolean straight;
        boolean all;
        boolean over;
        long state;
        final int[] drawn = new int[ORDERS_MOST + 1];
        final int[] limit = new int[ORDERS_MOST + 1];
        int used;
        int known;
        int least;
        int most;

        void seed(long given) {
            straight = given == 0;
            all = false;
            state = given;
        }

        void startAll(int orders) {
            straight = false;
            all = true;
            over = false;
            most = orders;
            known = 0;
            restart();
        }

        /* So many ORDERS there are at least, if the DRAWS that are known stay. */
        private void restart() {
            used = 0;
            least = 1;
            for (int i = 0; i < known; i++) {
                least += limit[i] - 1;
            }
        }

        /* The next ORDER of all; false behind the last one. */
        boolean advance() {
            for (int i = used - 1; i >= 0; i--) {
                if (drawn[i] + 1 < limit[i]) {
                    drawn[i]++;
                    known = i + 1;
                    restart();
                    return true;
                }
            }
            return false;
        }

        private int draw(int n) {
            if (!all) {
                state = state * 6364136223846793005L + 1442695040888963407L;
                return (int) ((state >>> 33) % n);
            }
            if (used >= known && !over) {
                least += n - 1;
                over = least > most;
            }
            if (over) {
                return 0;
            }
            if (used >= known) {
                drawn[used] = 0;
                limit[used] = n;
                known = used + 1;
            }
            used++;
            return drawn[used - 1];
        }

        /* The ORDER of so many parts, four bits for each, the first one lowest. */
        long order(int k) {
            long order = 0;
            for (int i = k - 1; i >= 0; i--) {
                order = order << 4 | i;
            }
            if (straight) {
                return order;
            }
            for (int i = k - 1; i >= 1; i--) {
                int j = draw(i + 1);
                long difference = (order >>> (4 * i) ^ order >>> (4 * j)) & 15;
                order ^= difference << (4 * i) | difference << (4 * j);
            }
            return order;
        }
    }

    /** What a run told. */
    private static final class Tale {
        final long[] numbers = new long[TOLD_MOST];
        final int[] kinds = new int[TOLD_MOST];
        int count;
        int failure;
        int place = -1;
        int steps;
        int places;
        int depth;
        int times;

        void start() {
            count = 0;
            failure = 0;
            place = -1;
            steps = 0;
            places = 0;
            depth = 0;
            times = 0;
        }

        boolean tell(long value, int mode) {
            if (count >= TOLD_MOST) {
                return false;
            }
            numbers[count] = value;
            kinds[count] = mode;
            count++;
            return true;
        }

        boolean like(Tale other) {
            if (failure != other.failure || place != other.place || count != other.count) {
                return false;
            }
            for (int i = 0; i < count; i++) {
                if (numbers[i] != other.numbers[i] || kinds[i] != other.kinds[i]) {
                    return false;
                }
            }
            return true;
        }
    }

    /** Runs a program by small steps; a FAILURE ends it by an IllegalStateException, and is then in the tale. */
    private static final class Machine {
        final Store store = new Store();
        final Memory memory = store.memory;
        final Draws draws = new Draws();
        Program p;
        Tale tale;
        int stepsMost;
        /* The nodes under way, the innermost last: how far each is, and the pending values' height where it began. */
        final int[] node = new int[ENTRIES_MOST];
        final int[] phase = new int[ENTRIES_MOST];
        final int[] base = new int[ENTRIES_MOST];
        final int[] state = new int[ENTRIES_MOST];
        final int[] mode = new int[ENTRIES_MOST];
        final long[] order = new long[ENTRIES_MOST];
        int top;
        /* The RANGES under way, by DEPTH: the node of each, and the DEPTH of the one that it lies in (0: none). */
        final int[] range = new int[DEPTH_MOST + 1];
        final int[] link = new int[DEPTH_MOST + 1];
        int depth;

        /* The draws must have been set; all that the run tells is in the tale. */
        void perform(Program program, int steps, Tale to) {
            p = program;
            tale = to;
            stepsMost = steps;
            memory.start();
            store.start(program.modes);
            tale.start();
            top = 0;
            depth = 0;
            try {
                workAll();
            } catch (IllegalStateException failed) {
                top = 0;
            }
            tale.places = store.made;
        }

        private void workAll() {
            begin(0);
            for (int turn = 0; turn < TURNS_MOST && top > 0; turn++) {
                int e = top - 1;
                switch (phase[e]) {
                    case P_BEGIN: start(e); break;
                    case P_PARTS: workPart(e); break;
                    case P_FINISH: finish(e, node[e]); break;
                    case P_USE: finishUse(e, node[e]); break;
                    case P_CLAUSE: goOn(e); break;
                    case P_CALLED: endCall(e); break;
                    case P_COERCE: coerce(e); break;
                    default: endStep(e); break;
                }
            }
        }

        private void fail(int what, int k) {
            tale.failure = what;
            tale.place = p.place[k];
            throw new IllegalStateException("the run has failed");
        }

        private void takeSteps(int howMany, int k) {
            if (howMany > stepsMost - tale.steps) {
                fail(NO_STEPS, k);
            }
            tale.steps += howMany;
        }

        private void need(int cell, int k) {
            if (memory.tag[cell] == UNDEFINED) {
                fail(UNDEFINED_USED, k);
            }
        }

        private void begin(int k) {
            if (top >= ENTRIES_MOST) {
                fail(NO_STEPS, k);
            }
            node[top] = k;
            phase[top] = P_BEGIN;
            base[top] = memory.height;
            state[top] = 0;
            top++;
        }

        private void beginRange(int k, int inside, int at) {
            if (depth >= DEPTH_MOST) {
                fail(NO_ROOM, at);
            }
            depth++;
            tale.depth = Math.max(tale.depth, depth);
            range[depth] = k;
            link[depth] = inside;
            int slots = p.kind[k] == SERIAL ? p.data[k] : 0;
            for (int i = 0; i < slots; i++) {
                memory.tag[slotCell(i)] = UNWORKED;
            }
        }

        /* The latest pending value leaves the innermost RANGE, which ends. */
        private void endRange(int k) {
            if (memory.ageOf(memory.top()) >= depth) {
                fail(TOO_YOUNG, k);
            }
            depth--;
        }

        private int slotCell(int slot) {
            return SLOT_AT + depth * ITEMS_MOST + slot;
        }

        /* The DEPTH of the RANGE that a node means, as it is seen from the innermost one. */
        private int depthOf(int rangeNode) {
            int d = depth;
            for (int guard = 0; guard <= DEPTH_MOST && d > 0 && range[d] != rangeNode; guard++) {
                d = link[d];
            }
            return d;
        }

        private void start(int e) {
            int k = node[e];
            takeSteps(1, k);
            mode[e] = p.mode[k];
            if (p.kind[k] == SERIAL) {
                beginRange(k, depth, k);
                state[e] = k + 1;
                phase[e] = P_CLAUSE;
                return;
            }
            order[e] = draws.order(sideBySide(k));
            phase[e] = P_PARTS;
        }

        /* How many parts are worked before the node itself. */
        private int sideBySide(int k) {
            switch (p.kind[k]) {
                case ASSIGNATION: case IDENTICAL: case DYADIC:
                    return 2;
                case OPERATION: case IDENTITY: case MONADIC: case EDGE: case SELECTION: case CAST: case IF: case CASE:
                case WHEN: case PRINT:
                    return 1;
                case CALL: case SLICE: case TRIM: case DISPLAY:
                    return p.kids(k);
                case GENERATOR: case VARIABLE:
                    return (p.data[k] & WITH_BOUNDS) != 0 ? 2 : 0;
                case LOOP:
                    return Integer.bitCount(p.data[k] & (WITH_FROM | WITH_BY | WITH_TO));
                default:
                    return 0;
            }
        }

        private void workPart(int e) {
            int k = node[e];
            int worked = memory.height - base[e];
            if (worked < sideBySide(k)) {
                begin(p.kidAt(k, (int) (order[e] >>> (4 * worked)) & 15));
            } else {
                phase[e] = isUse(p.kind[k]) ? P_USE : P_FINISH;
            }
        }

        private static boolean isUse(int kind) {
            switch (kind) {
                case DYADIC: case MONADIC: case EDGE: case SELECTION: case CALL: case SLICE: case TRIM:
                    return true;
                default:
                    return false;
            }
        }

        /* The cell of the value of a part that was worked. */
        private int worked(int e, int part) {
            for (int i = 0; i < 15; i++) {
                if ((order[e] >>> (4 * i) & 15) == part) {
                    return Math.min(base[e] + i, STACK_CELLS - 1);
                }
            }
            return NOTHING;
        }

        /* The node's value is known: its STEPS of coercion are next. */
        private void settle(int e, int what, long value) {
            memory.set(base[e], what, value);
            memory.height = base[e] + 1;
            state[e] = 0;
            phase[e] = P_COERCE;
        }

        private void settleCell(int e, int cell) {
            memory.copy(base[e], cell);
            memory.height = base[e] + 1;
            state[e] = 0;
            phase[e] = P_COERCE;
        }

        private void finish(int e, int k) {
            switch (p.kind[k]) {
                case NUMBER: case LONG_NUMBER: case TRUTH:
                    settle(e, PLAIN, p.data[k]);
                    break;
                case NIL:
                    settle(e, NAME, NIL_BITS);
                    break;
                case CAST: case OPERATION:
                    settleCell(e, base[e]);
                    break;
                case TAG:
                    finishTag(e, k);
                    break;
                case ROUTINE:
                    settle(e, CODE, k + (long) AGE_UNIT * needed(k));
                    break;
                case IDENTITY:
                    memory.copy(slotCell(p.more[k]), base[e]);
                    settleCell(e, base[e]);
                    break;
                case ASSIGNATION:
                    need(worked(e, 0), k);
                    put(worked(e, 0), worked(e, 1), k);
                    settleCell(e, worked(e, 0));
                    break;
                case IDENTICAL:
                    finishIdentical(e, k);
                    break;
                case DISPLAY:
                    finishDisplay(e, k);
                    break;
                case PRINT:
                    finishPrint(e, k);
                    break;
                case IF: case CASE:
                    chooseUnit(e, k);
                    break;
                case WHEN:
                    chooseWhen(e, k);
                    break;
                case LOOP:
                    startLoop(e, k);
                    break;
                case GENERATOR: case VARIABLE:
                    finishGenerator(e, k);
                    break;
                default:
                    settle(e, UNDEFINED, 0);
                    break;
            }
        }

        private void finishUse(int e, int k) {
            switch (p.kind[k]) {
                case SELECTION:
                    finishSelection(e, k);
                    break;
                case EDGE:
                    finishEdge(e, k);
                    break;
                case SLICE:
                    finishSlice(e, k);
                    break;
                case TRIM:
                    finishTrim(e, k);
                    break;
                case CALL:
                    need(worked(e, 0), k);
                    call(e, memory.within(worked(e, 0)), memory.ageOf(worked(e, 0)), 1);
                    break;
                default:
                    if (p.meant[k] >= 0) {
                        int routine = p.meant[k] + 1;
                        call(e, routine, needed(routine), 0);
                    } else {
                        standard(e, k);
                    }
                    break;
            }
        }

        /* The DEPTH of the innermost RANGE that a ROUTINE uses: its AGE, and where it lies. */
        private int needed(int routine) {
            return p.spot[routine] < 0 ? 0 : depthOf(p.spot[routine]);
        }

        private void finishTag(int e, int k) {
            int cell = SLOT_AT + depthOf(p.data[k]) * ITEMS_MOST + p.more[k];
            if (memory.tag[cell] == UNWORKED) {
                fail(UNDEFINED_USED, k);
            }
            settleCell(e, cell);
        }

        private void finishIdentical(int e, int k) {
            int left = worked(e, 0);
            int right = worked(e, 1);
            need(left, k);
            need(right, k);
            boolean same = memory.bits[left] == memory.bits[right];
            settle(e, PLAIN, same != (p.data[k] == 1) ? 1 : 0);
        }

        private void finishDisplay(int e, int k) {
            int n = p.kids(k);
            int o = memory.make(n, 1, -1);
            for (int i = 0; i < n; i++) {
                memory.copy(memory.first[o] + i, worked(e, i));
            }
            memory.weigh(o);
            if (memory.size[o] > SIZE_MOST) {
                fail(NO_ROOM, k);
            }
            settle(e, OBJECT, o);
        }

        private void finishPrint(int e, int k) {
            need(base[e], k);
            if (!tale.tell(memory.bits[base[e]], p.data[k])) {
                fail(NO_ROOM, k);
            }
            settle(e, UNDEFINED, 0);
        }

        private void finishGenerator(int e, int k) {
            int from = 1;
            int elements = 0;
            if ((p.data[k] & WITH_BOUNDS) != 0) {
                need(worked(e, 0), k);
                need(worked(e, 1), k);
                long low = memory.bits[worked(e, 0)];
                long many = memory.bits[worked(e, 1)] - low + 1;
                if (many > ELEMENTS_MOST) {
                    fail(NO_ROOM, k);
                }
                elements = (int) Math.max(many, 0);
                from = elements > 0 ? (int) low : 1;
            }
            int age = (p.data[k] & ON_HEAP) != 0 ? 0 : depth;
            int place = store.make(p.declared[k], age, from, elements);
            if (place < 0) {
                fail(NO_ROOM, k);
            }
            settle(e, NAME, place + (long) AGE_UNIT * age);
            if (p.kind[k] == VARIABLE) {
                startVariable(e, k);
            }
        }

        private void startVariable(int e, int k) {
            if ((p.data[k] & WITH_UNIT) != 0) {
                phase[e] = P_CLAUSE;
                begin(p.lastKid(k));
            } else {
                memory.copy(slotCell(p.more[k]), base[e]);
            }
        }

        private void put(int name, int value, int k) {
            if (memory.bits[name] == NIL_BITS) {
                fail(NIL_USED, k);
            }
            if (memory.ageOf(value) > memory.ageOf(name)) {
                fail(TOO_YOUNG, k);
            }
            int made = store.made;
            store.line(memory.within(name), value);
            for (int i = 0; i < store.queued; i++) {
                if (!store.putOne(i)) {
                    store.made = made;
                    fail(NO_ROOM, k);
                }
            }
        }

        /* The PLACE of a NAME of a STRUCT or ROW, which must not be NIL; -1 of what isn't a NAME. */
        private int placeIn(int cell, int k) {
            if (memory.tag[cell] != NAME) {
                return -1;
            }
            if (memory.bits[cell] == NIL_BITS) {
                fail(NIL_USED, k);
            }
            int place = memory.within(cell);
            if (store.modes.sort[store.mode[place]] == M_ROW) {
                need(PLACE_AT + place, k);
            }
            return place;
        }

        /* A ROW'S lower bound, by its PLACE or (without one) by the cell that has it. */
        private int lowerOf(int place, int cell) {
            return place >= 0 ? store.lower[place] : memory.lower[memory.object(cell)];
        }

        private int countOf(int place, int cell) {
            return place >= 0 ? store.count[place] : memory.count[memory.object(cell)];
        }

        private void finishSelection(int e, int k) {
            int cell = base[e];
            need(cell, k);
            int place = placeIn(cell, k);
            if (place >= 0) {
                settle(e, NAME, store.first[place] + p.data[k] + (long) AGE_UNIT * store.age[place]);
            } else {
                settleCell(e, memory.first[memory.object(cell)] + p.data[k]);
            }
        }

        private void finishEdge(int e, int k) {
            int cell = base[e];
            need(cell, k);
            int place = placeIn(cell, k);
            int low = lowerOf(place, cell);
            int many = countOf(place, cell);
            settle(e, PLAIN, p.data[k] == 0 ? low : (long) low + many - 1);
        }

        private void finishSlice(int e, int k) {
            int cell = worked(e, 0);
            need(cell, k);
            need(worked(e, 1), k);
            int place = placeIn(cell, k);
            int low = lowerOf(place, cell);
            int many = countOf(place, cell);
            long at = memory.bits[worked(e, 1)] - low;
            if (at < 0 || at >= many) {
                fail(BOUND, k);
            }
            if (place >= 0) {
                settle(e, NAME, store.first[place] + at + (long) AGE_UNIT * store.age[place]);
            } else {
                settleCell(e, memory.first[memory.object(cell)] + (int) at);
            }
        }

        private void finishTrim(int e, int k) {
            int cell = worked(e, 0);
            need(cell, k);
            need(worked(e, 1), k);
            need(worked(e, 2), k);
            int place = placeIn(cell, k);
            int low = lowerOf(place, cell);
            int many = countOf(place, cell);
            long from = memory.bits[worked(e, 1)] - low;
            long to = memory.bits[worked(e, 2)] - low;
            if (from <= to && (from < 0 || to >= many)) {
                fail(BOUND, k);
            }
            int elements = from <= to ? (int) (to - from) + 1 : 0;
            int begins = elements > 0 ? (int) from : 0;
            if (place >= 0) {
                trimName(e, k, place, begins, elements);
            } else {
                int o = memory.make(elements, 1, memory.first[memory.object(cell)] + begins);
                memory.weigh(o);
                settle(e, OBJECT, o);
            }
        }

        private void trimName(int e, int k, int place, int from, int elements) {
            int o = memory.make(elements, 1, -1);
            store.lineElements(place, from, o);
            store.copyLine();
            memory.weigh(o);
            if (memory.size[o] > SIZE_MOST) {
                fail(NO_ROOM, k);
            }
            takeSteps(store.queued, k);
            settle(e, OBJECT, o);
        }

        /* The parts that were worked, from one of them on, are the parameters. */
        private void call(int e, int routine, int inside, int firstPart) {
            int k = node[e];
            beginRange(routine, inside, k);
            for (int i = 0; i < p.more[routine]; i++) {
                memory.copy(slotCell(i), worked(e, i + firstPart));
            }
            memory.height = base[e];
            phase[e] = P_CALLED;
            begin(routine + 1);
        }

        private void endCall(int e) {
            endRange(node[e]);
            settleCell(e, memory.top());
        }

        private void chooseUnit(int e, int k) {
            need(base[e], k);
            long number = memory.bits[base[e]];
            int units = p.kind[k] == IF ? 1 : p.data[k];
            long wanted = p.kind[k] == IF ? 2 - number : number;
            boolean isUnit = wanted >= 1 && wanted <= units;
            choose(e, k, isUnit ? (int) wanted : units + 1);
        }

        /* Works a part, which may be that behind ELSE or OUT; without it there is a SKIP. */
        private void choose(int e, int k, int part) {
            memory.height = base[e];
            if (part < p.kids(k)) {
                phase[e] = P_CLAUSE;
                begin(p.kidAt(k, part));
            } else {
                settle(e, UNDEFINED, 0);
            }
        }

        private void chooseWhen(int e, int k) {
            need(base[e], k);
            int union = memory.object(base[e]);
            int held = memory.member[union];
            for (int i = 0; i < p.more[k]; i++) {
                int m = p.listMode[p.data[k] + i];
                boolean exact = m == held;
                if (exact || p.modes.sort[m] == M_UNION && p.modes.has(m, held)) {
                    beginRange(k, depth, k);
                    memory.copy(slotCell(0), exact ? memory.first[union] : base[e]);
                    state[e] = 1;
                    choose(e, k, i + 1);
                    return;
                }
            }
            choose(e, k, p.more[k] + 1);
        }

        private void goOn(int e) {
            int k = node[e];
            switch (p.kind[k]) {
                case SERIAL:
                    goOnSerial(e, k);
                    break;
                case VARIABLE:
                    put(base[e], memory.top(), k);
                    memory.copy(slotCell(p.more[k]), base[e]);
                    settleCell(e, base[e]);
                    break;
                case LOOP:
                    goOnLoop(e, k);
                    break;
                default:
                    if (state[e] == 1) {
                        endRange(k);
                    }
                    settleCell(e, memory.top());
                    break;
            }
        }

        private void goOnSerial(int e, int k) {
            int kid = state[e];
            if (kid < p.end[k]) {
                memory.height = base[e];
                state[e] = p.end[kid];
                begin(kid);
            } else {
                endRange(k);
                settleCell(e, memory.top());
            }
        }

        /* The number, what is added to it, and its end stay as pending values. */
        private void startLoop(int e, int k) {
            int n = sideBySide(k);
            for (int i = 0; i < n; i++) {
                need(worked(e, i), k);
            }
            int part = 0;
            long from = 1;
            long by = 1;
            long to = 0;
            if ((p.data[k] & WITH_FROM) != 0) {
                from = memory.bits[worked(e, part)];
                part++;
            }
            if ((p.data[k] & WITH_BY) != 0) {
                by = memory.bits[worked(e, part)];
                part++;
            }
            if ((p.data[k] & WITH_TO) != 0) {
                to = memory.bits[worked(e, part)];
            }
            memory.height = base[e];
            memory.push(PLAIN, from);
            memory.push(PLAIN, by);
            memory.push(PLAIN, to);
            state[e] = 0;
            phase[e] = P_CLAUSE;
        }

        /* state: 0 ahead of a turn, 1 behind WHILE, 2 behind DO. */
        private void goOnLoop(int e, int k) {
            int at = base[e];
            if (state[e] == 0) {
                startTurn(e, k);
            } else if (state[e] == 1) {
                need(memory.top(), k);
                boolean on = memory.bits[memory.top()] == 1;
                memory.height = at + 3;
                if (on) {
                    state[e] = 2;
                    begin(p.lastKid(k));
                } else {
                    depth--;
                    settle(e, UNDEFINED, 0);
                }
            } else {
                memory.height = at + 3;
                depth--;
                memory.bits[at] += memory.bits[at + 1];
                state[e] = 0;
                if (!isInt(memory.bits[at])) {
                    settle(e, UNDEFINED, 0);
                }
            }
        }

        private void startTurn(int e, int k) {
            long number = memory.bits[base[e]];
            long by = memory.bits[base[e] + 1];
            long to = memory.bits[base[e] + 2];
            boolean beyond = by > 0 && number > to || by < 0 && number < to;
            if ((p.data[k] & WITH_TO) != 0 && beyond) {
                settle(e, UNDEFINED, 0);
                return;
            }
            takeSteps(1, k);
            beginRange(k, depth, k);
            memory.set(slotCell(0), PLAIN, number);
            boolean asks = (p.data[k] & WITH_WHILE) != 0;
            state[e] = asks ? 1 : 2;
            begin(asks ? p.kidAt(k, sideBySide(k)) : p.lastKid(k));
        }

        private void coerce(int e) {
            int k = node[e];
            int done = state[e];
            state[e]++;
            if (done < p.hops[k]) {
                if (p.modes.sort[mode[e]] == M_PROC) {
                    callStep(e, k);
                } else {
                    follow(e, k);
                }
            } else if (done < p.stepCount(k)) {
                takeSteps(1, k);
                lastStep(e, k, done == p.hops[k] && p.tail[k] != 0 ? p.tail[k] : STEP_ROW);
            } else {
                top--;
            }
        }

        private void callStep(int e, int k) {
            takeSteps(1, k);
            int cell = memory.top();
            need(cell, k);
            int routine = memory.within(cell);
            beginRange(routine, memory.ageOf(cell), k);
            memory.height = base[e];
            phase[e] = P_STEPPED;
            begin(routine + 1);
        }

        private void endStep(int e) {
            endRange(node[e]);
            mode[e] = p.modes.inner(mode[e]);
            phase[e] = P_COERCE;
        }

        private void follow(int e, int k) {
            int cell = memory.top();
            need(cell, k);
            if (memory.bits[cell] == NIL_BITS) {
                fail(NIL_USED, k);
            }
            int o = memory.objects;
            store.line(memory.within(cell), RESULT);
            store.copyLine();
            memory.weigh(o);
            if (memory.sizeOf(RESULT) > SIZE_MOST) {
                fail(NO_ROOM, k);
            }
            takeSteps(store.queued, k);
            memory.copy(cell, RESULT);
            mode[e] = p.modes.inner(mode[e]);
        }

        /* WIDEN leaves the bits as they are. */
        private void lastStep(int e, int k, int what) {
            int cell = memory.top();
            if (what == STEP_VOID) {
                memory.set(cell, UNDEFINED, 0);
            } else if (what == STEP_ROW || what == STEP_UNITE && p.modes.sort[mode[e]] != M_UNION) {
                int o = memory.make(1, 1, -1);
                memory.copy(memory.first[o], cell);
                memory.member[o] = mode[e];
                memory.weigh(o);
                if (memory.size[o] > SIZE_MOST) {
                    fail(NO_ROOM, k);
                }
                memory.set(cell, OBJECT, o);
            }
        }

        private static boolean isInt(long value) {
            return value >= INT_LEAST && value <= INT_MOST;
        }

        private void standard(int e, int k) {
            boolean two = p.kind[k] == DYADIC;
            int left = worked(e, 0);
            int right = two ? worked(e, 1) : left;
            need(left, k);
            need(right, k);
            long a = memory.bits[left];
            long b = memory.bits[right];
            if (two ? isWrongDyadic(k, a, b) : isWrongMonadic(k, a)) {
                fail(NUMBER_WRONG, k);
            }
            settle(e, PLAIN, two ? dyadic((int) p.name[k], a, b) : monadic(p.name[k], a));
        }

        private boolean isWrongMonadic(int k, long a) {
            if (p.name[k] == SHORTEN) {
                return !isInt(a);
            }
            return p.name[k] == T_MINUS && a == (p.data[k] == M_INT ? INT_LEAST : LONG_LEAST);
        }

        private static long monadic(long sign, long a) {
            return sign == T_MINUS ? -a : sign == T_NOT ? 1 - a : a;
        }

        private boolean isWrongDyadic(int k, long a, long b) {
            int sign = (int) p.name[k];
            if (sign == T_OVER || sign == T_REST) {
                long least = p.data[k] == M_INT ? INT_LEAST : LONG_LEAST;
                return b == 0 || sign == T_OVER && b == -1 && a == least;
            }
            if (sign != T_PLUS && sign != T_MINUS && sign != T_TIMES) {
                return false;
            }
            return p.data[k] == M_INT ? !isInt(dyadic(sign, a, b)) : overflows(sign, a, b);
        }

        /* Whether the 64 bits aren't enough. */
        private static boolean overflows(int sign, long a, long b) {
            if (sign == T_PLUS) {
                return ((a ^ (a + b)) & (b ^ (a + b))) < 0;
            }
            if (sign == T_MINUS) {
                return ((a ^ b) & (a ^ (a - b))) < 0;
            }
            return a != 0 && (a * b / a != b || a == -1 && b == LONG_LEAST);
        }

        private static long dyadic(int sign, long a, long b) {
            switch (sign) {
                case T_PLUS: return a + b;
                case T_MINUS: return a - b;
                case T_TIMES: return a * b;
                case T_OVER: return b == 0 ? 0 : a / b;
                case T_REST: return b == 0 ? 0 : a % b;
                case T_AND: return a & b;
                case T_OR: return a | b;
                case T_EQUAL: return a == b ? 1 : 0;
                case T_UNLIKE: return a != b ? 1 : 0;
                case T_LESS: return a < b ? 1 : 0;
                case T_ATMOST: return a <= b ? 1 : 0;
                case T_MORE: return a > b ? 1 : 0;
                default: return a >= b ? 1 : 0;
            }
        }
    }
}
