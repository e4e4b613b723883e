/** Promises 1 to 6: a new object, type, read, fault, programs, clear. */
public final class TextsTest {
    private TextsTest() {
    }

    public static void main(String[] args) {
        newObject();
        typing();
        reading();
        Check.end();
    }

    private static void newObject() {
        AlgolHouse house = new AlgolHouse();
        Check.due("programs", house.programs(), 0);
        Check.due("type(0)", house.type(0), 0);
        Check.due("fault(0)", house.fault(0), 0);
        Check.due("fault(1)", house.fault(1), -1);
        Check.due("ran", Check.told(house), "0 -1 0 0 0 :");
        Check.due("told", house.told(), 0);
        Check.due("clear", house.clear(), 0);
        Check.due("nodes(0)", Check.answer(() -> house.nodes(0)), "IndexOutOfBoundsException");
        Check.due("number(0)", Check.answer(() -> house.number(0)), "IndexOutOfBoundsException");
        Check.due("outcome(0, 0)", Check.answer(() -> house.outcome(0, 0)), "IndexOutOfBoundsException");
    }

    private static void typing() {
        AlgolHouse house = new AlgolHouse();
        Check.due("three bytes", house.type(0x00FF00313B31L), 3);
        Check.due("none", house.type(0x4100L), 3);
        Check.due("eight", house.type(-1L), 11);
        for (int i = 0; i < 58; i++) {
            house.type(0x2020202020202020L);
        }
        Check.due("475", house.type(0), 475);
        Check.due("too many", house.type(0x202020202020L), -1);
        Check.due("still 475", house.type(0), 475);
        Check.due("480", house.type(0x2020202020L), 480);
        Check.due("full", house.type(0x20), -1);
        Check.due("nothing more", house.type(0), 480);
    }

    private static void reading() {
        AlgolHouse house = new AlgolHouse();
        Check.due("an empty text", house.read(), -1);
        Check.due("its fault", house.fault(0) + " " + house.fault(1), "1 0");
        Check.due("a program", Check.read(house, "1"), 0);
        Check.due("the fault stays", house.fault(0) + " " + house.fault(1), "1 0");
        Check.due("the text is empty then", house.type(0), 0);
        Check.due("wrong what", Check.answer(() -> house.fault(2)), "IllegalArgumentException");
        Check.due("wrong what", Check.answer(() -> house.fault(-1)), "IllegalArgumentException");
        Check.due("a fault", Check.read(house, "1;x"), -1);
        Check.due("its place", house.fault(0) + " " + house.fault(1), "3 2");
        for (int i = 1; i < 6; i++) {
            Check.due("programs", Check.read(house, "PRINT(" + i + ")"), i);
        }
        Check.due("programs", house.programs(), 6);
        Check.type(house, "x");
        Check.due("no room", Check.answer(house::read), "IllegalStateException");
        Check.due("the text stays", house.type(0), 1);
        house.run(5, 0, 9);
        Check.due("clear", house.clear(), 6);
        Check.due("programs", house.programs(), 0);
        Check.due("gone", Check.answer(() -> house.nodes(0)), "IndexOutOfBoundsException");
        Check.due("what was told stays", house.number(0), 5);
        Check.due("the fault stays", house.fault(0) + " " + house.fault(1), "3 2");
        Check.due("the text is read", house.read(), -1);
        Check.due("its fault", house.fault(0) + " " + house.fault(1), "3 0");
    }
}
