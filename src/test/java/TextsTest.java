/** Promises 1 to 6: a new object, type, read, fault, programs, clear. */
public final class TextsTest {
    private TextsTest() {
    }

    public static void main(String[] args) {
        newObject();
        typing();
        reading();
        sixPrograms();
        Check.end();
    }

    private static void newObject() {
        AlgolHouse house = new AlgolHouse();
        Check.due("programs", house.programs(), 0);
        Check.due("type(0)", house.type(0), 0);
        Check.due("fault(0)", house.fault(0), 0);
        Check.due("fault(1)", house.fault(1), -1);
        Check.due("ran", Check.told(house), "0 -1 0 0 0 :");
        Check.due("told", house.told(), 0);
        Check.due("clear", house.clear(), 0);
        Check.due("nodes(0)", Check.answer(() -> house.nodes(0)), "IndexOutOfBoundsException");
        Check.due("number(0)", Check.answer(() -> house.number(0)), "IndexOutOfBoundsException");
        Check.due("outcome(0, 0)", Check.answer(() -> house.outcome(0, 0)), "IndexOutOfBoundsException");
    }

    private static void typing() {
        AlgolHouse house = new AlgolHouse();
        Check.due("three bytes", house.type(0x00FF00313B31L), 3);
        Check.due("none", house.type(0x4100L), 3);
        Check.due("eight", house.type(-1L), 11);
        for (int i = 0; i < 58; i++) {
            house.type(0x2020202020202020L);
        }
        Check.due("475", house.type(0), 475);
        Check.due("too many", house.type(0x202020202020L), -1);
        Check.due("still 475", house.type(0), 475);
        Check.due("480", house.type(0x2020202020L), 480);
        Check.due("full", house.type(0x20), -1);
        Check.due("nothing more", house.type(0), 480);
    }

    private static void reading() {
        AlgolHouse house = new AlgolHouse();
        Check.due("an empty text", house.read(), -1);
        Check.due("its fault", house.fault(0) + " " + house.fault(1), "1 0");
        Check.due("a program", Check.read(house, "1"), 0);
        Check.due("the fault stays", house.fault(0) + " " + house.fault(1), "1 0");
        Check.due("the text is empty then", house.type(0), 0);
        Check.due("wrong what", Check.answer(() -> house.fault(2)), "IllegalArgumentException");
        Check.due("wrong what", Check.answer(() -> house.fault(-1)), "IllegalArgumentException");
        Check.due("a fault", Check.read(house, "1;x"), -1);
        Check.due("its place", house.fault(0) + " " + house.fault(1), "3 2");
        for (int i = 1; i < 6; i++) {
            Check.due("programs", Check.read(house, "PRINT(" + i + ")"), i);
        }
        Check.due("programs", house.programs(), 6);
        Check.type(house, "x");
        Check.due("no room", Check.answer(house::read), "IllegalStateException");
        Check.due("the text stays", house.type(0), 1);
        house.run(5, 0, 9);
        Check.due("clear", house.clear(), 6);
        Check.due("programs", house.programs(), 0);
        Check.due("gone", Check.answer(() -> house.nodes(0)), "IndexOutOfBoundsException");
        Check.due("what was told stays", house.number(0), 5);
        Check.due("the fault stays", house.fault(0) + " " + house.fault(1), "3 2");
        Check.due("the text is read", house.read(), -1);
        Check.due("its fault", house.fault(0) + " " + house.fault(1), "3 0");
    }

    /* Rooms are used again behind clear(), for longer and shorter texts in turn: nothing of an old one may show. */
    private static void sixPrograms() {
        AlgolHouse house = new AlgolHouse();
        Check.due("a fault", Check.read(house, "(1"), -1);
        readSix(house, 0);
        house.run(2, 0, 100);
        Check.due("orders", house.orders(3, 100, 10), 1);
        String before = state(house);
        Check.type(house, "PRINT(9)");
        for (int i = 0; i < 3; i++) {
            Check.due("the seventh", Check.answer(house::read), "IllegalStateException");
            Check.due("it changes nothing", state(house), before);
            Check.due("nor the text", house.type(0), 8);
        }
        for (int round = 1; round < 4; round++) {
            Check.due("clear", house.clear(), 6);
            Check.due("none is left", house.programs(), 0);
            if (round == 1) {
                Check.due("the text was kept", house.read(), 0);
                Check.due("its nodes", house.nodes(0), 3);
                Check.due("clear", house.clear(), 1);
            }
            readSix(house, round);
            Check.due("the seventh", Check.answer(house::read), "IllegalStateException");
        }
    }

    private static void readSix(AlgolHouse house, int round) {
        for (int i = 0; i < 6; i++) {
            Check.due("programs", house.programs(), i);
            Check.due("the number of a program", Check.read(house, counting(i, round)), i);
        }
        Check.due("programs", house.programs(), 6);
        for (int i = 0; i < 6; i++) {
            int units = 1 + (i + 2 * round) % 5;
            Check.due("nodes", house.nodes(i), 1 + 2 * units);
            Check.due("run", house.run(i, 0, 100), 0);
            Check.due("numbers", house.told(), units);
            Check.due("the last number", house.number(units - 1), 100 * round + 10 * i + units);
        }
    }

    /* PRINTS of some numbers, 1 to 5 of them. */
    private static String counting(int i, int round) {
        StringBuilder text = new StringBuilder();
        int units = 1 + (i + 2 * round) % 5;
        for (int u = 1; u <= units; u++) {
            text.append(u > 1 ? ";" : "").append("PRINT(").append(100 * round + 10 * i + u).append(')');
        }
        return text.toString();
    }

    /* What can be asked for but the text, in few calls: an object has 512 of them. */
    private static String state(AlgolHouse house) {
        StringBuilder all = new StringBuilder();
        all.append(house.programs()).append(' ').append(house.fault(0)).append(' ').append(house.fault(1)).append(' ');
        for (int p = 0; p < house.programs(); p++) {
            all.append(house.nodes(p)).append(',').append(house.node(p, 2, 1)).append(' ');
        }
        all.append(Check.told(house)).append(' ').append(house.outcome(0, 2)).append(' ').append(house.outcomes(0, 0));
        return all.append(' ').append(Check.answer(() -> house.outcome(1, 0))).toString();
    }
}
