/** Promises 19 to 21: orders, outcome, outcomes. */
public final class OrdersTest {
    /* UNITS that PRINT, without parts side by side of their own. */
    private static final String ONE = "(PRINT(1);1)";
    private static final String TWO = "(PRINT(2);2)";
    private static final String THREE = "(PRINT(3);3)";

    private OrdersTest() {
    }

    public static void main(String[] args) {
        found();
        limits();
        kept();
        wrongCalls();
        Check.end();
    }

    /* Each outcome's failure, place, how often it came, and its numbers. */
    private static String all(AlgolHouse house, int count) {
        StringBuilder all = new StringBuilder().append(count);
        for (int i = 0; i < count; i++) {
            all.append(" | ").append(house.outcome(i, 0)).append(' ').append(house.outcome(i, 1)).append(" x")
                    .append(house.outcome(i, 3));
            for (int j = 0; j < house.outcome(i, 2); j++) {
                all.append(' ').append(house.outcomes(i, j));
            }
        }
        return all.toString();
    }

    private static void ordersAre(String text, int steps, int most, String want) {
        AlgolHouse house = new AlgolHouse();
        Check.due("fault of " + text, Check.read(house, text) + " " + house.fault(0) + " " + house.fault(1), "0 0 -1");
        Check.due("orders of " + text, all(house, house.orders(0, steps, most)), want);
    }

    private static void found() {
        ordersAre("PRINT(1)", 9, 1, "1 | 0 -1 x1 1");
        ordersAre("PRINT(1+2)", 9, 2, "1 | 0 -1 x2 3");
        ordersAre("PRINT(1/0)", 9, 2, "1 | 5 7 x2");
        ordersAre(ONE + "+" + TWO, 99, 9, "2 | 0 -1 x1 2 1 | 0 -1 x1 1 2");
        ordersAre("PROC(INT)INT f=(INT n)INT:(PRINT(n);n);f(1)+f(2)", 99, 9, "2 | 0 -1 x4 2 1 | 0 -1 x4 1 2");
        ordersAre("[]INT a=(" + ONE + "," + TWO + "," + THREE + ");1", 99, 9,
                "6 | 0 -1 x1 2 3 1 | 0 -1 x1 3 2 1 | 0 -1 x1 3 1 2 | 0 -1 x1 1 3 2 | 0 -1 x1 2 1 3 | 0 -1 x1 1 2 3");
        ordersAre("LOC INT a:=1;PROC INT f=INT:(a:=2;3);PRINT(a+f)", 99, 99, "2 | 0 -1 x2 5 | 0 -1 x2 4");
        ordersAre("LOC INT a:=1;PROC INT f=INT:(a:=0;3);PRINT(f/a)", 99, 99, "2 | 0 -1 x2 3 | 5 44 x2");
        ordersAre("PRINT(1);PRINT(TRUE=TRUE)", 99, 99, "1 | 0 -1 x2 1 1");
        ordersAre("DO 1 OD", 3000, 1, "1 | 7 3 x1");
        ordersAre("PRINT(1+2)", 3, 5, "2 | 7 8 x1 | 7 6 x1");
    }

    private static void limits() {
        ordersAre("1+2;3+4", 99, 4, "1 | 0 -1 x4");
        ordersAre("1+2;3+4", 99, 3, "-1");
        ordersAre("1+2;3+4;5+6;7+8;1+2;3+4;5+6", 99, 200, "1 | 0 -1 x128");
        ordersAre("1+2;3+4;5+6;7+8;1+2;3+4;5+6;7+8", 99, 200, "-1");
        ordersAre("[]INT a=(1,2,3,4,5);1", 99, 120, "1 | 0 -1 x120");
        ordersAre("[]INT a=(1,2,3,4,5);1", 99, 119, "-1");
        ordersAre("[]INT a=(1,2,3,4,5,6,7,8);1", 99, 200, "-1");
        ordersAre("[]INT a=(" + ONE + "," + TWO + "," + THREE + ",(PRINT(4);4));1", 99, 200, "-1");
        ordersAre("[]INT a=(" + ONE + "," + ONE + "," + TWO + "," + TWO + ");1", 99, 200,
                "6 | 0 -1 x4 1 2 2 1 | 0 -1 x4 2 1 2 1 | 0 -1 x4 2 2 1 1 | 0 -1 x4 1 2 1 2 | 0 -1 x4 2 1 1 2 | 0 -1 x4 1 1 2 2");
        ordersAre("[]INT a=(" + ONE + "," + ONE + "," + TWO + "," + THREE + ");1", 99, 200, "12" + twelve());
        ordersAre("FOR i TO 300 DO 1+2 OD", 3000, 200, "-1");
    }

    /* The outcomes of a DISPLAY of four that PRINT 1, 1, 2, 3, as its ORDERS come. */
    private static String twelve() {
        java.util.List<String> unlike = new java.util.ArrayList<>();
        int[] told = {1, 1, 2, 3};
        for (int first = 0; first < 4; first++) {
            for (int second = 0; second < 3; second++) {
                for (int third = 0; third < 2; third++) {
                    int[] parts = {0, 1, 2, 3};
                    exchange(parts, 3, first);
                    exchange(parts, 2, second);
                    exchange(parts, 1, third);
                    String one = "";
                    for (int part : parts) {
                        one += " " + told[part];
                    }
                    if (!unlike.contains(one)) {
                        unlike.add(one);
                    }
                }
            }
        }
        StringBuilder all = new StringBuilder();
        for (String one : unlike) {
            all.append(" | 0 -1 x2").append(one);
        }
        return all.toString();
    }

    private static void exchange(int[] parts, int i, int j) {
        int part = parts[i];
        parts[i] = parts[j];
        parts[j] = part;
    }

    private static void kept() {
        AlgolHouse house = new AlgolHouse();
        Check.read(house, "PRINT(7)");
        Check.read(house, "PRINT(1+2);PRINT(LONG 4)");
        house.run(0, 0, 99);
        Check.due("orders", house.orders(1, 99, 9), 1);
        Check.due("what run() told stays", Check.told(house), "0 -1 3 0 1 : I7");
        Check.due("too many", house.orders(1, 99, 1), -1);
        Check.due("the latest that wasn't -1", all(house, 1), "1 | 0 -1 x2 3 4");
        house.run(1, 0, 2);
        house.clear();
        Check.due("it stays", all(house, 1), "1 | 0 -1 x2 3 4");
        Check.read(house, "1");
        Check.due("orders", house.orders(0, 1, 1), 1);
        Check.due("another", all(house, 1), "1 | 7 0 x1");
    }

    private static void wrongCalls() {
        AlgolHouse house = new AlgolHouse();
        Check.read(house, "PRINT(7)");
        String index = "IndexOutOfBoundsException";
        String argument = "IllegalArgumentException";
        Check.due("no outcome yet", Check.answer(() -> house.outcome(0, 9)), index);
        Check.due("no outcome yet", Check.answer(() -> house.outcomes(0, 0)), index);
        Check.due("orders", Check.answer(() -> house.orders(1, 0, 0)), index);
        Check.due("orders", Check.answer(() -> house.orders(-1, 9, 9)), index);
        Check.due("orders", Check.answer(() -> house.orders(0, 0, 9)), argument);
        Check.due("orders", Check.answer(() -> house.orders(0, 3001, 9)), argument);
        Check.due("orders", Check.answer(() -> house.orders(0, 9, 0)), argument);
        Check.due("orders", Check.answer(() -> house.orders(0, 9, 201)), argument);
        Check.due("orders", house.orders(0, 3000, 200), 1);
        Check.due("outcome", Check.answer(() -> house.outcome(1, 0)), index);
        Check.due("outcome", Check.answer(() -> house.outcome(-1, 4)), index);
        Check.due("outcome", Check.answer(() -> house.outcome(0, 4)), argument);
        Check.due("outcome", Check.answer(() -> house.outcome(0, -1)), argument);
        Check.due("outcomes", Check.answer(() -> house.outcomes(0, 1)), index);
        Check.due("outcomes", Check.answer(() -> house.outcomes(0, -1)), index);
        Check.due("outcomes", Check.answer(() -> house.outcomes(1, 0)), index);
        Check.due("outcomes", house.outcomes(0, 0), 7);
    }
}
