/** Term 4, sentence by sentence: PLACES of nodes, RANGES, and what comes where, just so or just not. */
public final class ComingEdgeTest {
    private static final int SERIAL = 1;
    private static final int TAG = 18;

    private ComingEdgeTest() {
    }

    public static void main(String[] args) {
        places();
        ranges();
        strong();
        toVoid();
        firm();
        meek();
        weak();
        soft();
        identical();
        identicalClauses();
        nothingStrong();
        nothingElse();
        ends();
        turns();
        calls();
        selections();
        operations();
        modesOfNodes();
        Check.end();
    }

    private static AlgolHouse read(String text) {
        AlgolHouse house = new AlgolHouse();
        Check.due("fault of " + text, Check.read(house, text) + " " + house.fault(0) + " " + house.fault(1), "0 0 -1");
        return house;
    }

    /* The node of a kind at a place; -1 without, -2 if there are two. */
    private static int find(AlgolHouse house, int kind, int place) {
        int found = -1;
        for (int k = 0; house.programs() > 0 && k < house.nodes(0); k++) {
            if (house.node(0, k, 0) == kind && house.node(0, k, 1) == place) {
                found = found == -1 ? k : -2;
            }
        }
        return found;
    }

    private static String stepsOf(AlgolHouse house, int k) {
        StringBuilder steps = new StringBuilder();
        for (int i = 0; k >= 0 && i < house.node(0, k, 3); i++) {
            steps.append(house.step(0, k, i));
        }
        return steps.toString();
    }

    /* The node of a kind that is marked has just these STEPS. */
    private static void steps(int kind, String marked, String want) {
        AlgolHouse house = read(Check.plain(marked));
        int k = find(house, kind, Check.mark(marked));
        Check.due("a node " + kind + " in " + marked, k >= 0, true);
        Check.due("steps of " + marked, stepsOf(house, k), want);
        if (k >= 0) {
            Check.due("behind them", house.step(0, k, want.length()) + " " + house.step(0, k, -1), "0 0");
        }
    }

    private static void kindAt(int kind, String marked) {
        AlgolHouse house = read(Check.plain(marked));
        Check.due("place of " + kind + " in " + marked, find(house, kind, Check.mark(marked)) >= 0, true);
        int count = 0;
        for (int k = 0; house.programs() > 0 && k < house.nodes(0); k++) {
            count += house.node(0, k, 0) == kind ? 1 : 0;
        }
        Check.due("nodes " + kind + " in " + marked, count, 1);
    }

    private static void places() {
        kindAt(1, "  |1 ; 2");
        kindAt(1, " |1 + 2");
        kindAt(1, "|MODE A = INT ; 1");
        kindAt(1, "|PRIO A = 1 ; 1");
        kindAt(1, "|INT a = 1 ; a");
        kindAt(2, "1 ; |OP A = (INT a) INT : a ; 1");
        kindAt(3, "1 ; |REF INT a = NIL ; 1");
        kindAt(4, "1 ; |LOC INT a := 1 ; 1");
        kindAt(4, "1 ; |HEAP [ 1 : 2 ] INT a ; 1");
        kindAt(5, "LOC INT a ; a |:= 1");
        kindAt(6, "LOC INT a ; a |IS a");
        kindAt(6, "LOC INT a ; NIL |ISNT a");
        kindAt(7, "1 ; |( INT a ) INT : a");
        kindAt(7, "1 ; |REF INT : NIL");
        kindAt(8, "1 ; |SKIP");
        kindAt(9, "REF INT a = |NIL ; 1");
        kindAt(10, "1 |+ 2");
        kindAt(10, "1 |/= 2");
        kindAt(11, "1 + |- 2");
        kindAt(11, "|LENG 2");
        kindAt(12, "[] INT a = 1 ; |LWB a");
        kindAt(12, "[] INT a = 1 ; 1 + |UPB a");
        kindAt(13, "LOC STRUCT ( INT p ) a ; |p OF a");
        kindAt(14, "1 ; |LOC INT");
        kindAt(14, "1 ; |HEAP [ 1 : 2 ] INT");
        kindAt(15, "TRUE ; |1");
        kindAt(16, "TRUE ; |LONG 1");
        kindAt(17, "1 ; |FALSE");
        kindAt(18, "INT a = 1 ; |a");
        kindAt(19, "1 ; |REF INT ( NIL )");
        kindAt(20, "PROC ( INT ) INT f = SKIP ; f |( 1 )");
        kindAt(21, "[] INT a = 1 ; a |[ 1 ]");
        kindAt(22, "[] INT a = 1 ; a |[ 1 : 1 ]");
        kindAt(23, "[] INT a = |( 1 , 2 ) ; 1");
        kindAt(23, "[] INT a = |( ) ; 1");
        kindAt(24, "1 ; |IF TRUE THEN 1 FI");
        kindAt(25, "1 ; |CASE 1 IN 1 , 2 ESAC");
        kindAt(26, "1 ; |CASE UNION ( INT , BOOL ) ( 1 ) WHEN ( INT a ) : a ESAC");
        kindAt(27, "1 ; |FOR i DO 1 OD");
        kindAt(27, "1 ; |TO 2 DO 1 OD");
        kindAt(27, "1 ; |DO 1 OD");
        kindAt(28, "1 ; |PRINT ( 1 )");
        AlgolHouse house = read(" ( 1 + 2 ) ; BEGIN LOC INT a ; a END ; f ( 1 ) ( 2 ) ; PROC(INT)PROC(INT)INT f = SKIP ; 1");
        Check.due("a SERIAL in parentheses", find(house, 1, 3) >= 0, true);
        Check.due("a SERIAL behind BEGIN", find(house, 1, 19) >= 0, true);
        Check.due("two CALLS", (find(house, 20, 41) >= 0) + " " + (find(house, 20, 47) >= 0), "true true");
    }

    private static void means(String text, int tagAt, int kind, int at) {
        AlgolHouse house = read(text);
        int k = find(house, TAG, tagAt);
        int d = k < 0 ? -1 : house.meant(0, k);
        Check.due("meant in " + text, d < 0 ? "none" : house.node(0, d, 0) + " " + house.node(0, d, 1), kind + " " + at);
    }

    private static void ranges() {
        means("INT a=1;a", 8, 3, 0);
        means("LOC INT a;a", 10, 4, 0);
        means("a;INT a=1;1", 0, 3, 2);
        means("INT a=1;(a;INT a=2;1)", 9, 3, 11);
        means("INT a=1;(INT a=2;1);a", 20, 3, 0);
        means("INT a=1;(INT a)INT:a", 19, 7, 8);
        means("INT a=1;(INT b)INT:a", 19, 3, 0);
        means("INT a=1;(INT a)INT:(INT a=2;a)", 28, 3, 20);
        means("INT i=9;FOR i FROM i TO 2 DO 1 OD", 19, 3, 0);
        means("INT i=9;FOR i BY i TO 2 DO 1 OD", 17, 3, 0);
        means("INT i=9;FOR i TO i DO 1 OD", 17, 3, 0);
        means("INT i=9;FOR i WHILE i=1 DO 1 OD", 20, 27, 8);
        means("INT i=9;FOR i DO i OD", 17, 27, 8);
        means("INT i=9;FOR k DO i OD", 17, 3, 0);
        means("INT i=9;FOR i DO INT i=2;i OD", 25, 3, 17);
        String when = "INT a=1;UNION(INT,BOOL)u=1;CASE u WHEN(INT a):";
        means(when + "a ESAC", when.length(), 26, 27);
        means(when + "1,(BOOL b):a ESAC", when.length() + 11, 3, 0);
        means(when + "1 OUT a ESAC", when.length() + 6, 3, 0);
        means("INT u=2;CASE UNION(INT,BOOL)(u)WHEN(INT u):1 ESAC", 29, 3, 0);
        means("INT a=1;IF INT a=2;TRUE THEN a FI", 29, 3, 0);
        means("INT a=1;IF INT a=2;a=2 THEN 1 FI", 19, 3, 11);
        means("INT a=1;WHILE INT a=2;TRUE DO a OD", 30, 3, 0);
        means("INT n=2;LOC[1:n]INT a;1", 14, 3, 0);
        means("LOC INT a:=a;1", 11, 4, 0);
        Check.faultyAt(3, "|a");
        Check.faultyAt(3, "(INT a=1;1);|a");
        Check.faultyAt(3, "IF INT a=1;TRUE THEN |a FI");
        Check.faultyAt(3, "FOR i TO |i DO 1 OD");
        Check.faultyAt(3, "FOR i DO 1 OD;|i");
        Check.faultyAt(3, "(INT a)INT:1;|a");
        Check.faultyAt(3, "CASE UNION(INT,BOOL)(1)WHEN(INT a):1,(BOOL b):|a ESAC");
        Check.faultyAt(3, "CASE UNION(INT,BOOL)(|a)WHEN(INT a):1 ESAC");
        Check.faultyAt(3, "UNION(INT,BOOL)u=1;CASE u WHEN(INT a):1 OUT |b ESAC;CASE u WHEN(INT b):1 ESAC");
        Check.faultyAt(3, "UNION(INT,BOOL)u=1;CASE u WHEN(INT a):CASE u WHEN(INT b):1,(BOOL c):2 ESAC OUT |b ESAC");
        Check.faultyAt(2, "INT a=1;LOC INT |a;1");
        Check.faultyAt(2, "LOC INT a;INT |a=1;1");
        Check.faultyAt(2, "LOC INT a;LOC BOOL |a;1");
        Check.faultyAt(2, "INT a=1;INT |a=1;1");
        Check.faultyAt(2, "HEAP INT b;LOC INT a;HEAP INT |a:=1;1");
        means("CASE 1;2;UNION(INT,BOOL)(1)WHEN(INT a):a,(BOOL b):b ESAC", 39, 26, 0);
        means("CASE 1;2;UNION(INT,BOOL)(1)WHEN(INT a):a,(BOOL b):b ESAC", 50, 26, 0);
        Check.faultyAt(3, "CASE 1;2;UNION(INT,BOOL)(1)WHEN(INT a):a,(BOOL b):|a ESAC");
        Check.faultyAt(2, "x;INT a=1;BOOL |a=1;x");
        Check.faultyAt(2, "INT a=1;1;INT b=2;HEAP INT |b;INT a=2;1");
        Check.faultyAt(3, "|x;(INT a=1;INT a=2;1)");
        Check.faultyAt(2, "(INT a=1;INT |a=x;x);x");
        Check.good("INT a=1;(INT a=2;1);(INT a)INT:(INT a=3;1)");
        Check.good("OP +=(INT a)INT:1;OP +=(INT b)INT:1;INT a=1;a");
    }

    /* From and to: STEPS, or - if it can't come. */
    private static void comesStrong(String from, String to, String want) {
        String text = from + " x=SKIP;" + to + " y=|x;1";
        if (want.equals("-")) {
            Check.faultyAt(5, text);
        } else {
            steps(TAG, text, want);
            steps(TAG, from + " x=SKIP;LOC " + to + " y:=|x;1", want);
            steps(TAG, from + " x=SKIP;LOC " + to + " y;y:=|x;1", want);
            steps(TAG, from + " x=SKIP;" + to + "(|x);1", want);
            steps(TAG, from + " x=SKIP;" + to + ":|x;1", want);
            steps(TAG, from + " x=SKIP;PROC(" + to + ")INT f=SKIP;f(|x);1", want);
            steps(TAG, from + " x=SKIP;" + to + " y=IF TRUE THEN SKIP ELSE(1;|x)FI;1", want);
        }
    }

    private static void strong() {
        String[][] table = {{"INT", "INT", ""}, {"INT", "LONG", "4"}, {"INT", "BOOL", "-"}, {"LONG", "INT", "-"},
            {"BOOL", "INT", "-"}, {"LONG", "LONG", ""}, {"REF INT", "INT", "2"}, {"REF INT", "LONG", "24"},
            {"REF LONG", "INT", "-"}, {"REF REF INT", "INT", "22"}, {"REF REF INT", "REF INT", "2"},
            {"REF INT", "REF REF INT", "-"}, {"REF INT", "REF LONG", "-"}, {"PROC INT", "INT", "1"}, {"PROC INT", "LONG", "14"},
            {"PROC INT", "PROC INT", ""}, {"PROC INT", "PROC LONG", "-"}, {"REF PROC INT", "INT", "21"},
            {"PROC REF INT", "INT", "12"}, {"PROC PROC INT", "INT", "11"}, {"PROC(INT)INT", "INT", "-"}, {"INT", "REF INT", "-"},
            {"INT", "PROC INT", "-"}, {"INT", "[]INT", "5"}, {"INT", "[][]INT", "55"}, {"INT", "[]LONG", "45"},
            {"INT", "[]BOOL", "-"}, {"[]INT", "[]LONG", "-"}, {"[]INT", "[][]INT", "5"}, {"[]INT", "INT", "-"},
            {"REF INT", "[]INT", "25"}, {"REF INT", "[][]LONG", "2455"}, {"REF INT", "[]REF INT", "5"},
            {"REF[]INT", "[]INT", "2"}, {"REF[]INT", "[][]INT", "25"}, {"PROC[]INT", "[]INT", "1"},
            {"INT", "UNION(INT,BOOL)", "3"}, {"LONG", "UNION(INT,BOOL)", "-"}, {"INT", "UNION(LONG,BOOL)", "-"},
            {"REF INT", "UNION(INT,BOOL)", "23"}, {"REF INT", "UNION(REF INT,BOOL)", "3"},
            {"REF REF INT", "UNION(REF INT,BOOL)", "23"}, {"PROC INT", "UNION(INT,BOOL)", "13"},
            {"UNION(INT,BOOL)", "UNION(LONG,BOOL,INT)", "3"}, {"UNION(INT,BOOL)", "UNION(INT,LONG)", "-"},
            {"UNION(INT,BOOL,LONG)", "UNION(INT,LONG)", "-"}, {"UNION(INT,BOOL)", "UNION(BOOL,INT)", ""},
            {"REF UNION(INT,BOOL)", "UNION(INT,LONG,BOOL)", "23"}, {"UNION(INT,BOOL)", "INT", "-"},
            {"INT", "[]UNION(INT,BOOL)", "35"}, {"UNION(INT,BOOL)", "[]UNION(INT,LONG,BOOL)", "35"},
            {"INT", "UNION([]INT,BOOL)", "-"}, {"INT", "UNION(INT,[]INT)", "3"}, {"[]INT", "UNION(INT,[]INT)", "3"},
            {"STRUCT(INT a)", "INT", "-"}, {"STRUCT(INT a)", "STRUCT(INT b)", "-"}, {"REF STRUCT(INT a)", "STRUCT(INT a)", "2"},
            {"STRUCT(INT a)", "[]STRUCT(INT a)", "5"}, {"BOOL", "[]BOOL", "5"}, {"REF PROC REF INT", "LONG", "2124"}};
        for (String[] row : table) {
            comesStrong(row[0], row[1], row[2]);
        }
        Check.faultyAt(5, "BOOL x=SKIP;INT:|x");
        Check.faultyAt(5, "BOOL x=SKIP;INT(|x)");
        Check.faultyAt(5, "BOOL x=SKIP;INT(1;|x)");
        Check.faultyAt(5, "BOOL x=SKIP;LOC INT y:=|x;1");
        Check.faultyAt(5, "BOOL x=SKIP;LOC INT y;y:=|x;1");
        Check.faultyAt(5, "BOOL x=SKIP;PROC(BOOL,INT)INT f=SKIP;f(x,|x)");
        Check.faultyAt(5, "INT a=1|=1;1");
        Check.faultyAt(5, "LOC INT b;INT a=b |IS b;1");
    }

    private static void toVoid() {
        String[][] table = {{"INT", "6"}, {"REF INT", "6"}, {"PROC INT", "16"}, {"PROC VOID", "1"}, {"REF PROC VOID", "21"},
            {"REF REF PROC VOID", "221"}, {"REF PROC INT", "6"}, {"PROC REF INT", "16"}, {"PROC PROC INT", "116"},
            {"PROC PROC VOID", "11"}, {"PROC REF PROC VOID", "121"}, {"PROC REF PROC INT", "16"}, {"PROC(INT)VOID", "6"},
            {"REF PROC(INT)VOID", "6"}, {"PROC PROC(INT)VOID", "16"}, {"UNION(INT,BOOL)", "6"}, {"[]INT", "6"},
            {"STRUCT(INT a)", "6"}};
        for (String[] row : table) {
            steps(TAG, row[0] + " x=SKIP;|x;1", row[1]);
            steps(TAG, row[0] + " x=SKIP;1;|x", row[1]);
            steps(TAG, row[0] + " x=SKIP;DO |x OD", row[1]);
            steps(TAG, row[0] + " x=SKIP;VOID:|x", row[1]);
            steps(TAG, row[0] + " x=SKIP;VOID(|x)", row[1]);
            steps(TAG, row[0] + " x=SKIP;IF TRUE THEN |x FI;1", row[1]);
        }
        steps(28, "|PRINT(1);1", "");
        steps(27, "|DO 1 OD;1", "");
        steps(8, "|SKIP;1", "");
        steps(1, "SKIP;(|1)", "");
        steps(15, "SKIP;(|1)", "6");
    }

    private static void comesFirm(String from, String to, String want) {
        if (want.equals("-")) {
            Check.faultyAt(6, "OP Q=(" + to + " a)INT:1;" + from + " x=SKIP;|Q x;1");
            Check.faultyAt(6, "OP Q=(" + to + " a,BOOL b)INT:1;" + from + " x=SKIP;x |Q TRUE;1");
            Check.faultyAt(6, "OP Q=(BOOL a," + to + " b)INT:1;" + from + " x=SKIP;TRUE |Q x;1");
        } else {
            steps(TAG, "OP Q=(" + to + " a)INT:1;" + from + " x=SKIP;Q |x;1", want);
            steps(TAG, "OP Q=(" + to + " a,BOOL b)INT:1;" + from + " x=SKIP;|x Q TRUE;1", want);
            steps(TAG, "OP Q=(BOOL a," + to + " b)INT:1;" + from + " x=SKIP;TRUE Q |x;1", want);
            steps(1, "OP Q=(" + to + " a)INT:1;" + from + " x=SKIP;Q(|x);1", want);
        }
    }

    private static void firm() {
        String[][] table = {{"INT", "INT", ""}, {"INT", "LONG", "-"}, {"REF INT", "INT", "2"}, {"REF INT", "LONG", "-"},
            {"REF INT", "REF INT", ""}, {"REF REF INT", "REF INT", "2"}, {"PROC INT", "INT", "1"}, {"REF PROC INT", "INT", "21"},
            {"PROC INT", "PROC INT", ""}, {"PROC(INT)INT", "INT", "-"}, {"INT", "[]INT", "-"}, {"REF[]INT", "[]INT", "2"},
            {"[]INT", "[][]INT", "-"}, {"INT", "UNION(INT,BOOL)", "3"}, {"REF INT", "UNION(INT,BOOL)", "23"},
            {"REF INT", "UNION(REF INT,BOOL)", "3"}, {"UNION(INT,BOOL)", "UNION(INT,BOOL,LONG)", "3"},
            {"INT", "UNION(LONG,BOOL)", "-"}, {"UNION(INT,BOOL,LONG)", "UNION(INT,BOOL)", "-"}, {"BOOL", "INT", "-"},
            {"INT", "REF INT", "-"}, {"STRUCT(INT a)", "STRUCT(INT a)", ""}, {"STRUCT(INT a)", "STRUCT(INT b)", "-"}};
        for (String[] row : table) {
            comesFirm(row[0], row[1], row[2]);
        }
        steps(TAG, "REF PROC INT x=SKIP;|x+1", "21");
        steps(TAG, "REF PROC INT x=SKIP;1+|x", "21");
        steps(TAG, "REF BOOL x=SKIP;~|x", "2");
        steps(TAG, "PROC LONG x=SKIP;-|x", "1");
        Check.faultyAt(6, "LONG x=1;x|+1");
        Check.faultyAt(6, "LONG x=1;1|+x");
        Check.faultyAt(6, "[]INT x=1;x|+1");
        Check.faultyAt(6, "UNION(INT,BOOL)x=1;x|+1");
    }

    /* Each place that is MEEK to INT, with a # where it is. */
    private static final String[] INT_PLACES = {"LOC[#:1]INT;1", "LOC[1:#]INT;1", "HEAP[#:1]INT;1", "LOC[#:1]INT v;1",
        "LOC[1:#]INT v;1", "[]INT r=1;r[#];1", "[]INT r=1;r[#:1];1", "[]INT r=1;r[1:#];1", "CASE # IN 1,2 ESAC;1",
        "FROM # DO 1 OD;1", "BY # DO 1 OD;1", "TO # DO 1 OD;1", "FOR i FROM 1 BY # TO 2 DO 1 OD;1"};

    private static void meek() {
        String[][] toInt = {{"INT", ""}, {"REF INT", "2"}, {"PROC INT", "1"}, {"REF PROC REF INT", "212"},
            {"PROC PROC INT", "11"}, {"LONG", "-"}, {"BOOL", "-"}, {"[]INT", "-"}, {"UNION(INT,BOOL)", "-"},
            {"PROC(INT)INT", "-"}, {"REF LONG", "-"}, {"STRUCT(INT a)", "-"}};
        for (String place : INT_PLACES) {
            for (String[] row : toInt) {
                meekly(row[0], place, row[1]);
            }
        }
        String[][] toBool = {{"BOOL", ""}, {"REF BOOL", "2"}, {"PROC BOOL", "1"}, {"REF PROC BOOL", "21"}, {"INT", "-"},
            {"LONG", "-"}, {"[]BOOL", "-"}, {"UNION(INT,BOOL)", "-"}};
        for (String[] row : toBool) {
            meekly(row[0], "IF # THEN 1 FI;1", row[1]);
            meekly(row[0], "WHILE # DO 1 OD;1", row[1]);
            meekly(row[0], "IF 1;# THEN 1 FI;1", row[1]);
        }
        String[][] toUnion = {{"UNION(INT,BOOL)", ""}, {"REF UNION(INT,BOOL)", "2"}, {"PROC UNION(INT,BOOL)", "1"}, {"INT", "-"},
            {"[]UNION(INT,BOOL)", "-"}, {"REF INT", "-"}};
        for (String[] row : toUnion) {
            meekly(row[0], "CASE # WHEN(INT i):1 ESAC;1", row[1]);
        }
        String[][] toProc = {{"PROC(INT)INT", ""}, {"REF PROC(INT)INT", "2"}, {"PROC PROC(INT)INT", "1"},
            {"REF PROC REF PROC(INT)INT", "212"}, {"PROC INT", "-"}, {"INT", "-"}, {"[]PROC(INT)INT", "-"}};
        for (String[] row : toProc) {
            meekly(row[0], "#(1);1", row[1]);
        }
        String[][] told = {{"INT", ""}, {"LONG", ""}, {"BOOL", ""}, {"REF INT", "2"}, {"PROC LONG", "1"}, {"REF REF BOOL", "22"},
            {"[]INT", "-"}, {"UNION(INT,BOOL)", "-"}, {"STRUCT(INT a)", "-"}, {"PROC VOID", "-"}, {"PROC(INT)INT", "-"}};
        for (String[] row : told) {
            meekly(row[0], "PRINT(#);1", row[1]);
        }
        Check.faultyAt(5, "PRINT(|PRINT(1))");
    }

    /* A clause there is one node with STEPS of its own: a SERIAL'S last UNIT has none. */
    private static void meekly(String from, String place, String want) {
        String text = from + " x=SKIP;" + place;
        boolean serial = place.startsWith("IF") || place.startsWith("WHILE") || place.startsWith("CASE");
        if (want.equals("-")) {
            Check.faultyAt(5, text.replace("#", "|x").replace("IF 1;|x", "IF |1;x"));
        } else if (serial) {
            String marked = place.startsWith("IF 1;") ? text.replace("1;#", "|1;x") : text.replace("#", "|x");
            steps(1, marked, want);
        } else {
            steps(TAG, text.replace("#", "|x"), want);
            steps(1, text.replace("#", "(|x)"), want);
        }
    }

    private static void weak() {
        String[][] rows = {{"[]INT", "", "0"}, {"REF[]INT", "", "4"}, {"REF REF[]INT", "2", "4"}, {"PROC REF[]INT", "1", "4"},
            {"PROC[]INT", "1", "0"}, {"REF PROC[]INT", "21", "0"}, {"REF PROC REF[]INT", "21", "4"}, {"INT", "-", ""},
            {"REF INT", "-", ""}, {"STRUCT(INT a)", "-", ""}, {"PROC(INT)[]INT", "-", ""}, {"UNION([]INT,INT)", "-", ""}};
        for (String[] row : rows) {
            weakly(row[0], row[1], "#[1];1", row[2].equals("4") ? "4 21" : "0 21");
            weakly(row[0], row[1], "#[1:1];1", "6 22");
            weakly(row[0], row[1], "LWB #;1", "0 12");
            weakly(row[0], row[1], "UPB #;1", "0 12");
        }
        String[][] structs = {{"STRUCT(INT p)", "", "0"}, {"REF STRUCT(INT p)", "", "4"}, {"REF REF STRUCT(INT p)", "2", "4"},
            {"PROC STRUCT(INT p)", "1", "0"}, {"PROC REF STRUCT(INT p)", "1", "4"}, {"REF PROC STRUCT(INT p)", "21", "0"},
            {"INT", "-", ""}, {"[]STRUCT(INT p)", "-", ""}, {"UNION(INT,STRUCT(INT p))", "-", ""}};
        for (String[] row : structs) {
            weakly(row[0], row[1], "p OF #;1", row[2] + " 13");
        }
    }

    /* STEPS of what is sliced, and the mode and kind of the whole. */
    private static void weakly(String from, String want, String place, String whole) {
        String text = from + " x=SKIP;" + place.replace("#", "|x");
        if (want.equals("-")) {
            Check.faultyAt(5, text);
            return;
        }
        steps(TAG, text, want);
        AlgolHouse house = read(Check.plain(text));
        int k = find(house, TAG, Check.mark(text)) - 1;
        Check.due("mode and kind in " + text, k < 0 ? "none" : house.mode(0, k, 0) + " " + house.node(0, k, 0), whole);
    }

    private static void soft() {
        String[][] table = {{"REF INT", "", "1"}, {"REF REF INT", "", "NIL"}, {"PROC REF INT", "1", "1"},
            {"PROC PROC REF INT", "11", "1"}, {"REF PROC REF INT", "", "REF INT:NIL"}, {"INT", "-", "1"}, {"PROC INT", "-", "1"},
            {"PROC(INT)REF INT", "-", "1"}, {"[]REF INT", "-", "1"}, {"UNION(REF INT,BOOL)", "-", "1"}};
        for (String[] row : table) {
            String text = row[0] + " x=SKIP;|x:=" + row[2] + ";1";
            if (row[1].equals("-")) {
                Check.faultyAt(5, text);
            } else {
                steps(TAG, text, row[1]);
            }
        }
        Check.faultyAt(5, "REF REF INT x=SKIP;x:=|1;1");
        Check.faultyAt(5, "REF PROC REF INT x=SKIP;x:=|1;1");
        Check.faultyAt(5, "|1:=x");
        Check.faultyAt(5, "|NIL:=1");
        Check.faultyAt(3, "|x:=1");
        Check.faultyAt(3, "REF INT x=SKIP;x:=|y");
        Check.good("REF INT x=SKIP;REF INT y=x:=1;x:=y:=2");
    }

    /* Behind both sides: the first SOFT, unless it is NIL or SKIP, then the second; the other one STRONG to it. */
    private static void identical() {
        Check.good("REF INT a=NIL;REF INT b=NIL;a IS b;a ISNT b;NIL IS a;a IS NIL");
        steps(TAG, "REF INT a=NIL;REF REF INT b=NIL;a IS |b", "2");
        Check.faultyAt(5, "REF INT a=NIL;REF REF INT b=NIL;b IS |a");
        steps(TAG, "REF INT a=NIL;PROC REF INT b=SKIP;|b IS a", "1");
        steps(TAG, "REF INT a=NIL;PROC REF INT b=SKIP;a IS |b", "1");
        steps(TAG, "PROC REF INT b=SKIP;NIL IS |b", "1");
        steps(TAG, "REF PROC REF INT b=SKIP;NIL IS |b", "");
        steps(TAG, "REF INT a=NIL;REF PROC REF INT b=SKIP;a IS |b", "21");
        Check.faultyAt(5, "REF INT a=NIL;REF BOOL b=NIL;a IS |b");
        Check.faultyAt(5, "REF INT a=NIL;a IS |1");
        Check.faultyAt(5, "REF INT a=NIL;|1 IS a");
        Check.faultyAt(5, "NIL IS |NIL");
        Check.faultyAt(5, "NIL IS |1");
        Check.faultyAt(5, "REF INT a=NIL;|(1,2)IS a");
        Check.faultyAt(5, "REF INT a=NIL;a IS |(1,2)");
        Check.faultyAt(5, "|(1,2)IS 1");
        Check.faultyAt(3, "1 IS |x");
        Check.faultyAt(3, "|x IS 1");
        Check.faultyAt(5, "REF INT a=NIL;REF INT b=IF TRUE THEN a ELSE |1 FI;1");
        Check.faultyAt(5, "REF INT a=NIL;IF TRUE THEN a ELSE |1 FI IS a");
        Check.good("REF INT a=NIL;IF TRUE THEN NIL ELSE a FI IS a;a IS IF TRUE THEN NIL ELSE a FI");
        Check.prints("REF INT a=NIL;PRINT(NIL IS a);PRINT(a IS(NIL));PRINT(a ISNT NIL)", "B1 B1 B0");
    }

    /* A clause isn't NIL or SKIP itself: it is the first, and without a mode (from its ENDS) it is 5 at it. */
    private static void identicalClauses() {
        for (String second : new String[]{"a", "b", "1", "NIL", "(NIL)", "(SKIP)", "(1,2)"}) {
            for (String first : new String[]{"(|SKIP)", "(|NIL)", "BEGIN |NIL END", "(|(NIL))", "(|1;NIL)",
                "(|[]INT r=(1,2);NIL)", "|IF TRUE THEN NIL FI", "|IF TRUE THEN NIL ELSE SKIP FI", "|IF TRUE THEN NIL ELSE(1,2)FI",
                "|CASE 1 IN NIL,SKIP OUT NIL ESAC", "|CASE UNION(INT,BOOL)(1)WHEN(INT i):NIL OUT SKIP ESAC"}) {
                Check.faultyAt(5, "REF INT a=NIL;PROC REF INT b=SKIP;" + first + " IS " + second);
                Check.faultyAt(5, "REF INT a=NIL;PROC REF INT b=SKIP;" + first + " ISNT " + second);
            }
        }
        Check.faultyAt(3, "(NIL)IS |x");
        Check.faultyAt(5, "NIL IS(|NIL)");
        Check.faultyAt(5, "NIL IS |IF TRUE THEN SKIP FI");
        Check.syntaxAt("REF INT a=NIL;SKIP |IS a");
        Check.syntaxAt("REF INT a=NIL;a IS |SKIP");
        Check.good("REF INT a=NIL;a IS(SKIP);a IS(NIL);a IS IF TRUE THEN NIL ELSE SKIP FI;(a)IS(NIL)");
        steps(SERIAL, "PROC REF INT b=SKIP;NIL IS(|b)", "1");
        steps(SERIAL, "PROC REF INT b=SKIP;(|b)IS NIL", "1");
        steps(TAG, "PROC REF INT b=SKIP;REF INT a=NIL;IF TRUE THEN NIL ELSE a FI IS |b", "1");
        steps(TAG, "PROC REF INT b=SKIP;REF INT a=NIL;IF TRUE THEN a ELSE |b FI IS NIL", "1");
    }

    /* A form in a place that is STRONG to a mode: the mark is where it can't come, none if it can. */
    private static void formIs(String mode, String form, boolean comes) {
        String[] around = {"# y=@;1", "LOC # y:=@;1", "LOC # y;y:=@", "#:@", "#(@)", "#(1;@)", "PROC(#)INT f=SKIP;f(@)",
            "PROC(INT,#)INT f=SKIP;f(1,@)", "# y=IF TRUE THEN @ FI;1", "# y=IF TRUE THEN SKIP ELSE 1;@ FI;1",
            "# y=CASE 1 IN @,SKIP ESAC;1", "# y=CASE 1 IN SKIP,@ ESAC;1", "# y=CASE 1 IN SKIP,SKIP OUT @ ESAC;1", "# y=((@));1",
            "# y=CASE UNION(INT,BOOL)(1)WHEN(INT i):@ ESAC;1", "# y=CASE UNION(INT,BOOL)(1)WHEN(INT i):SKIP OUT @ ESAC;1",
            "STRUCT(INT v,# w)y=(1,@);1", "[]# y=(SKIP,@);1"};
        for (String part : around) {
            String text = part.replace("#", mode).replace("@", "|" + form);
            if (comes) {
                Check.good(Check.plain(text));
            } else {
                Check.faultyAt(5, text);
            }
        }
    }

    private static void nothingStrong() {
        String[] modes = {"INT", "BOOL", "LONG", "REF INT", "PROC INT", "PROC(INT)INT", "[]INT", "STRUCT(INT p,BOOL q)",
            "UNION(INT,REF BOOL)", "[]REF INT", "REF[]INT"};
        for (String mode : modes) {
            formIs(mode, "SKIP", true);
            formIs(mode, "NIL", mode.startsWith("REF"));
            formIs(mode, "()", mode.startsWith("[]"));
        }
        formIs("[]INT", "(1,2)", true);
        formIs("[]INT", "(1,SKIP,3)", true);
        formIs("[][]INT", "(1,(2,3),())", true);
        formIs("[]REF INT", "(NIL,SKIP)", true);
        formIs("STRUCT(INT p,BOOL q)", "(1,TRUE)", true);
        formIs("STRUCT(INT p,BOOL q)", "(1,TRUE,1)", false);
        formIs("STRUCT(INT p)", "(1,2)", false);
        formIs("STRUCT(INT p,REF INT q)", "(SKIP,NIL)", true);
        formIs("INT", "(1,2)", false);
        formIs("REF INT", "(1,2)", false);
        formIs("UNION([]INT,INT)", "(1,2)", false);
        formIs("REF[]INT", "(1,2)", false);
        formIs("PROC[]INT", "(1,2)", false);
        Check.faultyAt(5, "[]INT y=(1,|TRUE);1");
        Check.faultyAt(5, "[]INT y=(1,(2;|TRUE));1");
        Check.faultyAt(5, "[]INT y=(1,|NIL);1");
        Check.faultyAt(5, "STRUCT(INT p,BOOL q)y=(1,|2);1");
        Check.faultyAt(5, "STRUCT(INT p,BOOL q)y=(|TRUE,2);1");
        Check.faultyAt(5, "[]STRUCT(INT p,BOOL q)y=(|1,TRUE);1");
        String[] voids = {"@;1", "1;@", "DO @ OD", "VOID(@)", "VOID:@", "IF TRUE THEN @ FI", "(@);1", "1;(1;@)"};
        for (String part : voids) {
            Check.good(part.replace("@", "SKIP"));
            Check.faultyAt(5, part.replace("@", "|NIL"));
            Check.faultyAt(5, part.replace("@", "|(1,2)"));
            Check.faultyAt(5, part.replace("@", "|()"));
        }
    }

    /* Places that are FIRM, MEEK, WEAK or SOFT: what has no mode can't come there, and is told at itself. */
    private static void nothingElse() {
        String[] enclosed = {"1+@", "@+1", "-@", "~@", "Q @", "LWB @", "UPB @", "p OF @", "@[1]", "@[1:1]", "@(1)", "@:=1",
            "@(x)", "@:=x", "@+x"};
        String[] units = {"[]INT r=1;r[@]", "[]INT r=1;r[@:1]", "[]INT r=1;r[1:@]", "LOC[@:1]INT;1", "LOC[1:@]INT;1",
            "LOC[@:1]INT v;1", "FROM @ DO 1 OD", "BY @ DO 1 OD", "TO @ DO 1 OD", "PRINT(@)", "[]INT r=1;r[@:x]",
            "FROM @ TO x DO 1 OD"};
        String[] serials = {"CASE @ IN 1,2 ESAC", "IF @ THEN 1 FI", "WHILE @ DO 1 OD", "CASE @ WHEN(INT i):1 ESAC",
            "IF @ THEN x FI"};
        String[] clauses = {"(|SKIP)", "(|NIL)", "|(1,2)", "|()", "(|(1,2))", "(|1;SKIP)", "(|SKIP;NIL)", "|IF TRUE THEN SKIP FI",
            "|IF TRUE THEN SKIP ELSE NIL FI", "|IF TRUE THEN(1;NIL)ELSE(1,2)FI", "|CASE 1 IN SKIP,NIL ESAC",
            "|CASE 1 IN SKIP,NIL OUT(1,2)ESAC", "|CASE UNION(INT,BOOL)(1)WHEN(INT i):SKIP ESAC", "(|BEGIN SKIP END)"};
        for (String clause : clauses) {
            for (String part : enclosed) {
                Check.faultyAt(5, part.replace("@", clause));
            }
            for (String part : units) {
                Check.faultyAt(5, part.replace("@", clause));
            }
            for (String part : serials) {
                String inner = clause.startsWith("(|") ? "|" + Check.plain(clause) : clause;
                Check.faultyAt(5, part.replace("@", inner));
            }
        }
        for (String part : units) {
            Check.faultyAt(5, part.replace("@", "|SKIP"));
            Check.faultyAt(5, part.replace("@", "|NIL"));
        }
        for (String part : serials) {
            Check.faultyAt(5, part.replace("@", "|SKIP"));
            Check.faultyAt(5, part.replace("@", "|NIL"));
            Check.faultyAt(5, part.replace("@", "|1;SKIP"));
        }
        Check.faultyAt(5, "|NIL:=1");
    }

    /* A clause's mode is that of the first END that has one, inwards too; the others come STRONG to that. */
    private static void ends() {
        Check.good("1+IF TRUE THEN SKIP ELSE 1 FI");
        Check.good("PRINT(CASE 1 IN SKIP,(1;2),SKIP OUT 3 ESAC)");
        Check.good("PRINT(LONG 1+IF TRUE THEN LONG 1 ELSE 1 FI)");
        Check.faultyAt(5, "PRINT(LONG 1+IF TRUE THEN 1 ELSE |LONG 1 FI)");
        Check.faultyAt(5, "1+IF TRUE THEN |NIL ELSE 1 FI");
        Check.faultyAt(5, "1+IF TRUE THEN 1 ELSE |NIL FI");
        Check.faultyAt(5, "1+IF TRUE THEN |(1,2)ELSE 1 FI");
        Check.faultyAt(5, "1+IF TRUE THEN 1 ELSE 2;|TRUE FI");
        Check.faultyAt(5, "PRINT(CASE 1 IN 1,IF TRUE THEN 2 ELSE |TRUE FI OUT TRUE ESAC)");
        Check.faultyAt(5, "PRINT(CASE UNION(INT,BOOL)(1)WHEN(INT i):i,(BOOL b):|b ESAC)");
        Check.faultyAt(5, "PRINT(CASE UNION(INT,BOOL)(1)WHEN(INT i):SKIP,(BOOL b):b OUT |1 ESAC)");
        Check.good("IF TRUE THEN []INT(1)ELSE(1,2,3)FI[1];IF TRUE THEN(1,2,3)ELSE[]INT(1)FI[1]");
        Check.good("LOC INT a;IF TRUE THEN NIL ELSE a FI:=1");
        Check.faultyAt(5, "LOC INT a;|IF TRUE THEN 1 ELSE a FI:=1");
        Check.faultyAt(5, "LOC INT a;IF TRUE THEN a ELSE |1 FI:=1");
        steps(24, "LOC INT a;PRINT(|IF TRUE THEN a ELSE a FI)", "2");
        steps(TAG, "LOC INT a;PRINT(IF TRUE THEN |a ELSE a FI)", "");
        steps(24, "LOC INT a;PRINT(|IF TRUE THEN 1 ELSE a FI)", "");
        steps(TAG, "LOC INT a;PRINT(IF TRUE THEN 1 ELSE |a FI)", "2");
        steps(24, "LOC INT a;LONG b=|IF TRUE THEN 1 ELSE a FI;1", "");
        steps(TAG, "LOC INT a;LONG b=IF TRUE THEN 1 ELSE |a FI;1", "24");
        steps(15, "LOC INT a;LONG b=IF TRUE THEN |1 ELSE a FI;1", "4");
        steps(15, "PRINT(IF TRUE THEN(1;LONG 1)ELSE IF TRUE THEN SKIP ELSE |2 FI FI)", "4");
        steps(25, "PROC INT p=SKIP;PRINT(|CASE 1 IN p,p ESAC)", "1");
        Check.faultyAt(5, "1+(1;IF TRUE THEN 1 ELSE |TRUE FI)");
        Check.faultyAt(5, "PRINT((1;CASE 1 IN 1,|TRUE ESAC))");
        Check.faultyAt(5, "IF 1;IF TRUE THEN TRUE ELSE |1 FI THEN 1 FI");
        steps(TAG, "LOC INT a;PRINT((1;IF TRUE THEN 1 ELSE |a FI))", "2");
        steps(1, "LOC INT a;PRINT((|1;2;IF TRUE THEN a ELSE a FI))", "2");
    }

    /* Of several faults that of the part that is judged first is told; a part comes right behind it has been judged. */
    private static void turns() {
        Check.faultyAt(5, "IF |1 THEN x FI");
        Check.faultyAt(5, "CASE |TRUE IN x,1 ESAC");
        Check.faultyAt(5, "CASE |1 WHEN(INT i):x ESAC");
        Check.faultyAt(5, "TO |TRUE DO x OD");
        Check.faultyAt(5, "FROM |TRUE BY x DO 1 OD");
        Check.faultyAt(5, "WHILE |1 DO x OD");
        Check.faultyAt(5, "LOC[|TRUE:x]INT;1");
        Check.faultyAt(5, "LOC[1:|TRUE]INT v:=x;1");
        Check.faultyAt(5, "[]INT r=1;r[|TRUE:x]");
        Check.faultyAt(5, "|1[x]");
        Check.faultyAt(5, "|1[x:y]");
        Check.faultyAt(5, "|1(x)");
        Check.faultyAt(5, "|1:=x");
        Check.faultyAt(5, "INT a=|TRUE;x");
        Check.faultyAt(5, "|NIL;x");
        Check.faultyAt(5, "(|NIL;x)");
        Check.faultyAt(3, "TRUE+|x");
        Check.faultyAt(6, "(TRUE|+1)+x");
        Check.faultyAt(6, "1*2|-TRUE+x");
        Check.faultyAt(3, "1 IS |x");
        Check.faultyAt(3, "[]INT r=(TRUE,|x);1");
        Check.faultyAt(3, "INT a=IF TRUE THEN TRUE ELSE |x FI;1");
        Check.faultyAt(3, "IF TRUE THEN NIL ELSE |x FI;1");
        Check.faultyAt(5, "IF TRUE THEN |NIL FI;x");
        Check.faultyAt(5, "1+IF TRUE THEN 1 ELSE |TRUE FI+x");
        Check.faultyAt(5, "(IF TRUE THEN 1 ELSE |TRUE FI)+x");
        Check.faultyAt(3, "p OF |x");
        Check.faultyAt(5, "PROC INT f=INT:|TRUE;x");
        Check.faultyAt(5, "INT(|TRUE);x");
        Check.faultyAt(5, "PRINT(|NIL);x");
    }

    private static void calls() {
        String f = "PROC(INT,BOOL)INT f=SKIP;";
        Check.good(f + "f(1,TRUE)");
        Check.faultyAt(5, f + "f|(1)");
        Check.faultyAt(5, f + "f|(1,TRUE,1)");
        Check.faultyAt(5, f + "f|(TRUE)");
        Check.faultyAt(3, f + "f(|x)");
        Check.faultyAt(3, f + "f(1,TRUE,|x)");
        Check.faultyAt(3, f + "f(TRUE,|x)");
        Check.faultyAt(5, f + "f(|TRUE,1)");
        Check.faultyAt(5, f + "f(1,|1)");
        Check.faultyAt(5, f + "f(|(1,2),NIL)");
        Check.faultyAt(5, f + "f|(1,TRUE)(1)");
        Check.faultyAt(5, "PROC INT g=SKIP;|g(1)");
        Check.good("PROC PROC(INT)INT g=SKIP;g(1)");
        Check.good("PROC(INT)PROC(BOOL)INT g=SKIP;g(1)(TRUE)");
        Check.good("((INT a)INT:a)(1);(SKIP;(INT a)INT:a)(1)");
    }

    private static void selections() {
        String s = "STRUCT(INT p,STRUCT(BOOL r)q)s=SKIP;";
        Check.good(s + "p OF s;q OF s;r OF q OF s");
        Check.faultyAt(3, s + "|r OF s");
        Check.faultyAt(3, s + "|p OF q OF s");
        Check.faultyAt(3, s + "r OF |z OF s");
        Check.faultyAt(5, s + "r OF |p OF s");
        Check.faultyAt(5, "z OF |1");
        Check.faultyAt(3, s + "1+|z OF s");
    }

    private static void meansOp(String marked, int kind, int want) {
        AlgolHouse house = read(Check.plain(marked));
        int k = find(house, kind, Check.mark(marked));
        Check.due("an operation in " + marked, k >= 0, true);
        int d = k < 0 ? -2 : house.meant(0, k);
        Check.due("meant in " + marked, d < 0 ? d : house.node(0, d, 1), want);
        if (d >= 0) {
            Check.due("it is an OP", house.node(0, d, 0), 2);
        }
    }

    private static void operations() {
        String ints = "OP +=(INT a,INT b)INT:1;";
        meansOp("1|+2", 10, -1);
        meansOp(ints + "1|+2", 10, 0);
        meansOp("1|+2;" + ints + "1", 10, 4);
        meansOp(ints + "(1|+2)", 10, 0);
        meansOp(ints + "(" + ints + "1|+2)", 10, ints.length() + 1);
        meansOp(ints + ints + "1|+2", 10, 0);
        meansOp("OP +=(BOOL a,INT b)INT:1;" + ints + "1|+2", 10, 25);
        meansOp(ints + "(OP +=(BOOL a,INT b)INT:1;1|+2)", 10, 0);
        meansOp("OP +=(INT a)INT:1;1|+2", 10, -1);
        meansOp(ints + "|+2", 11, -1);
        meansOp("OP +=(INT a)INT:1;|+2", 11, 0);
        meansOp("OP +=(UNION(INT,BOOL)a,INT b)INT:1;" + ints + "1|+2", 10, 0);
        meansOp("OP +=(LONG a,LONG b)INT:1;1|+2", 10, -1);
        meansOp("OP +=(LONG a,LONG b)INT:1;LONG 1|+LONG 2", 10, 0);
        meansOp("OP +=([]INT a,INT b)INT:1;1|+2", 10, -1);
        meansOp("OP +=(REF INT a,INT b)INT:1;LOC INT v;v|+2", 10, 0);
        meansOp("OP +=(REF INT a,INT b)INT:1;LOC INT v;2|+v", 10, -1);
        meansOp("(INT n)INT:(OP +=(INT a,INT b)INT:1;n|+2)", 10, 12);
        meansOp(ints + "FOR i TO 1|+2 DO 1 OD", 10, 0);
        meansOp("OP LENG=(INT a)INT:1;|LENG 1", 11, 0);
        meansOp("OP LENG=(BOOL a)INT:1;|LENG 1", 11, -1);
        meansOp("OP ~=(INT a)INT:1;|~1", 11, 0);
        meansOp("OP Q=(INT a,BOOL b)INT:1;1+1 |Q TRUE", 10, 0);
        meansOp("OP Q=(BOOL a,INT b)INT:1;(1;TRUE)|Q 1*2", 10, 0);
        meansOp("OP ~=(INT a)INT:1;|~TRUE", 11, -1);
        Check.faultyAt(6, "(" + ints + "1);TRUE|+2");
        Check.faultyAt(6, "(OP Q=(INT a)INT:1;1);|Q 1");
        Check.faultyAt(6, "OP Q=(INT a,INT b)INT:1;|Q 1");
        Check.faultyAt(6, "OP Q=(INT a)INT:1;1 |Q 1");
        standards();
    }

    /* All standard operations, and modes of operands for which there is none. */
    private static void standards() {
        String[] values = {"1", "LONG 1", "TRUE"};
        String[] signs = {"+", "-", "*", "/", "%", "=", "/=", "<", "<=", ">", ">=", "&", "!"};
        for (int s = 0; s < signs.length; s++) {
            for (int a = 0; a < 3; a++) {
                for (int b = 0; b < 3; b++) {
                    String text = values[a] + " |" + signs[s] + " " + values[b];
                    boolean both = s == 5 || s == 6;
                    boolean exists = a == b && (a == 2 ? s >= 11 || both : s < 11);
                    if (exists) {
                        AlgolHouse house = read(Check.plain(text));
                        Check.due("mode of " + text, house.mode(0, find(house, 10, Check.mark(text)), 0), s < 5 ? a : 2);
                    } else {
                        Check.faultyAt(6, text);
                    }
                }
            }
        }
        String[] ones = {"+", "-", "~", "LENG", "SHORTEN", "Q"};
        int[][] modes = {{0, 1, -1}, {0, 1, -1}, {-1, -1, 2}, {1, -1, -1}, {-1, 0, -1}, {-1, -1, -1}};
        for (int s = 0; s < ones.length; s++) {
            for (int a = 0; a < 3; a++) {
                if (modes[s][a] >= 0) {
                    AlgolHouse house = read(ones[s] + " " + values[a]);
                    Check.due("mode of " + ones[s] + " " + values[a], house.mode(0, find(house, 11, 0), 0), modes[s][a]);
                } else {
                    Check.faultyAt(6, "|" + ones[s] + " " + values[a]);
                }
            }
        }
        Check.faultyAt(6, "1 |LENG 1");
        for (String sign : signs) {
            Check.faultyAt(6, "PRINT(1)|" + sign + " PRINT(2)");
            Check.faultyAt(6, "DO 1 OD|" + sign + " 1");
        }
        for (String sign : ones) {
            Check.faultyAt(6, "|" + sign + " PRINT(1)");
        }
        Check.faultyAt(6, "LONG 1 |SHORTEN LONG 1");
    }

    private static void modeAt(int kind, String marked, int want) {
        AlgolHouse house = read(Check.plain(marked));
        int k = find(house, kind, Check.mark(marked));
        Check.due("mode of " + kind + " in " + marked, k < 0 ? "none" : String.valueOf(house.mode(0, k, 0)), want);
    }

    private static void modesOfNodes() {
        modeAt(1, "|1;TRUE", 2);
        modeAt(1, "|1;SKIP", -1);
        modeAt(2, "|OP A=(INT a)INT:1;1", -1);
        modeAt(3, "|INT a=1;1", -1);
        modeAt(4, "|LOC INT a;1", -1);
        modeAt(5, "LOC INT a;a|:=1", 4);
        modeAt(5, "PROC REF INT a=SKIP;a|:=1", 4);
        modeAt(6, "LOC INT a;a |IS a", 2);
        modeAt(7, "|INT:1", 5);
        modeAt(8, "|SKIP;1", -1);
        modeAt(9, "REF INT a=|NIL;1", -1);
        modeAt(10, "1|=1", 2);
        modeAt(11, "|-LONG 1", 1);
        modeAt(12, "|LWB[]INT(1)", 0);
        modeAt(13, "LOC STRUCT(BOOL p)a;|p OF a", 4);
        modeAt(13, "STRUCT(BOOL p)a=SKIP;|p OF a", 2);
        modeAt(14, "|LOC INT", 4);
        modeAt(15, "|1", 0);
        modeAt(16, "|LONG 1", 1);
        modeAt(17, "|TRUE", 2);
        modeAt(18, "LOC INT a;|a", 4);
        modeAt(18, "LONG a=1;|a", 1);
        modeAt(18, "FOR i DO |i OD", 0);
        modeAt(18, "(BOOL a,BOOL b)INT:1;FOR i DO |i OD", 0);
        modeAt(18, "(BOOL a,BOOL b)INT:1;(BOOL a,LONG b)INT:(|b;1)", 1);
        modeAt(18, "(BOOL b)INT:(|b;1)", 2);
        modeAt(18, "CASE UNION(INT,BOOL)(1)WHEN(BOOL b):|b ESAC", 2);
        modeAt(19, "|LONG(1)", 1);
        modeAt(19, "|VOID(1)", 3);
        modeAt(20, "PROC(INT)[]INT f=SKIP;f|(1)", 6);
        modeAt(21, "[]BOOL a=SKIP;a|[1]", 2);
        modeAt(21, "REF[]BOOL a=SKIP;a|[1]", 4);
        modeAt(22, "[]BOOL a=SKIP;a|[1:1]", 6);
        modeAt(22, "REF[]BOOL a=SKIP;a|[1:1]", 6);
        modeAt(23, "[]INT a=|(1,2);1", -1);
        modeAt(24, "|IF TRUE THEN SKIP ELSE TRUE FI", 2);
        modeAt(24, "|IF TRUE THEN SKIP FI", -1);
        modeAt(24, "LONG a=|IF TRUE THEN 1 ELSE LONG 1 FI;1", 0);
        modeAt(25, "|CASE 1 IN SKIP,SKIP OUT LONG 1 ESAC", 1);
        modeAt(26, "|CASE UNION(INT,BOOL)(1)WHEN(INT a):SKIP,(BOOL b):b ESAC", 2);
        modeAt(27, "|DO 1 OD", 3);
        modeAt(28, "|PRINT(1)", 3);
    }
}
