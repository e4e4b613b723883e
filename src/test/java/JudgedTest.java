/** Promises 7 to 13: nodes, node, step, mode, parts, one, meant. */
public final class JudgedTest {
    private JudgedTest() {
    }

    public static void main(String[] args) {
        numbering();
        places();
        steps();
        modes();
        oneness();
        meaning();
        wrongCalls();
        Check.end();
    }

    private static AlgolHouse house(String text) {
        AlgolHouse house = new AlgolHouse();
        Check.due("fault of " + text, Check.read(house, text) + " " + house.fault(0) + " " + house.fault(1), "0 0 -1");
        return house;
    }

    /* Each node's kind, place and size. */
    private static String tree(String text) {
        AlgolHouse house = house(text);
        StringBuilder all = new StringBuilder();
        for (int k = 0; k < house.nodes(0); k++) {
            all.append(k > 0 ? " " : "").append(house.node(0, k, 0)).append('@').append(house.node(0, k, 1)).append('/')
                    .append(house.node(0, k, 2));
        }
        return all.toString();
    }

    private static void treeIs(String text, String want) {
        Check.due("tree of " + text, tree(text), want);
    }

    private static void numbering() {
        treeIs("1", "1@0/2 15@0/1");
        treeIs(" 1", "1@1/2 15@1/1");
        treeIs("1+2*3-4", "1@0/8 10@5/7 10@1/5 15@0/1 10@3/3 15@2/1 15@4/1 15@6/1");
        treeIs("PRIO A=1;PRIO B=8;OP A=(INT a,INT b)INT:1;OP B=(INT a,INT b)INT:1;1 A 2*3 B 4",
                "1@0/14 2@18/3 7@23/2 15@40/1 2@42/3 7@47/2 15@64/1 10@68/7 15@66/1 10@71/5 15@70/1 10@74/3 15@72/1 15@76/1");
        treeIs("LOC INT a;a:=a:=1", "1@0/7 4@0/1 5@11/5 18@10/1 5@14/3 18@13/1 15@16/1");
        treeIs("LOC REF INT a;a ISNT NIL", "1@0/5 4@0/1 6@16/3 18@14/1 9@21/1");
        treeIs("-(1;2)", "1@0/5 11@0/4 1@2/3 15@2/1 15@4/1");
        treeIs("MODE A=INT;A(1)", "1@0/4 19@11/3 1@13/2 15@13/1");
        treeIs("(MODE A=INT;1)", "1@0/3 1@1/2 15@12/1");
        treeIs("[]INT a=(1,2);a[1];a[1:2];UPB a",
                "1@0/14 3@0/4 23@8/3 15@9/1 15@11/1 21@15/3 18@14/1 15@16/1 22@20/4 18@19/1 15@21/1 15@23/1 12@26/2 18@30/1");
        treeIs("IF TRUE THEN 1 ELSE SKIP FI;CASE 1 IN 1,2 OUT 3 ESAC",
                "1@0/15 24@0/7 1@3/2 17@3/1 1@13/2 15@13/1 1@20/2 8@20/1 25@28/7 1@33/2 15@33/1 15@38/1 15@40/1 1@46/2 15@46/1");
        treeIs("CASE UNION(INT,BOOL)(1)WHEN(INT a):a OUT 2 ESAC",
                "1@0/9 26@0/8 1@5/4 19@5/3 1@21/2 15@21/1 18@35/1 1@41/2 15@41/1");
        treeIs("FOR i FROM 1 TO 2 WHILE TRUE DO PRINT(i) OD",
                "1@0/9 27@0/8 15@11/1 15@16/1 1@24/2 17@24/1 1@32/3 28@32/2 18@38/1");
        treeIs("DO LONG 1 OD", "1@0/4 27@0/3 1@3/2 16@3/1");
        treeIs("LOC[1:2]INT a:=();HEAP[1:2]INT", "1@0/8 4@0/4 15@4/1 15@6/1 23@15/1 14@18/3 15@23/1 15@25/1");
        treeIs("STRUCT(INT p,INT q)s=(1,2);p OF s", "1@0/7 3@0/4 23@21/3 15@22/1 15@24/1 13@27/2 18@32/1");
        treeIs("PROC(INT)INT f=(INT n)INT:n;f(1)",
                "1@0/7 3@0/3 7@15/2 18@26/1 20@29/3 18@28/1 15@30/1");
    }

    private static void places() {
        AlgolHouse house = house("BEGIN 1+2 END");
        Check.due("a SERIAL'S first token", house.node(0, 1, 1), 6);
        Check.due("a formula's sign", house.node(0, 2, 1), 7);
    }

    /* The STEPS of the node that is the so-manieth. */
    private static void stepsAre(String text, int k, String want) {
        AlgolHouse house = house(text);
        StringBuilder all = new StringBuilder();
        for (int i = 0; i < house.node(0, k, 3); i++) {
            all.append(house.step(0, k, i));
        }
        Check.due("steps of " + text, all, want);
        Check.due("behind them", house.step(0, k, house.node(0, k, 3)), 0);
        Check.due("ahead of them", house.step(0, k, -1), 0);
    }

    private static void steps() {
        stepsAre("1", 1, "6");
        stepsAre("1", 0, "");
        stepsAre("SKIP", 1, "");
        stepsAre("PRINT(1)", 1, "");
        stepsAre("LONG a=1;1", 2, "4");
        stepsAre("[][]LONG a=1;1", 2, "455");
        stepsAre("LOC INT a;LONG b=a;1", 3, "24");
        stepsAre("LOC INT a;UNION(INT,BOOL)b=a;1", 3, "23");
        stepsAre("LOC INT a;UNION(REF INT,BOOL)b=a;1", 3, "3");
        stepsAre("UNION(INT,BOOL)a=1;UNION(LONG,BOOL,INT)b=a;1", 4, "3");
        stepsAre("UNION(INT,BOOL)a=1;UNION(BOOL,INT)b=a;1", 4, "");
        stepsAre("PROC INT a=SKIP;a", 3, "16");
        stepsAre("PROC REF INT a=SKIP;a", 3, "16");
        stepsAre("LOC PROC VOID a;a", 2, "21");
        stepsAre("PROC(INT)INT a=SKIP;a", 3, "6");
        stepsAre("LOC REF PROC INT a;PRINT(a)", 3, "221");
        stepsAre("LOC REF[]INT a;a[1]", 3, "2");
        stepsAre("[]INT a=1;a[1]", 4, "");
        stepsAre("PROC REF INT a=SKIP;a:=1", 4, "1");
        stepsAre("LOC INT a;a+1", 3, "2");
        stepsAre("OP +=(UNION(INT,BOOL)a,REF INT b)INT:1;LOC INT c;c+c", 6, "23");
        stepsAre("OP +=(UNION(INT,BOOL)a,REF INT b)INT:1;LOC INT c;c+c", 7, "");
        stepsAre("LOC INT a;PRINT(IF TRUE THEN a ELSE a FI)", 3, "2");
        stepsAre("LOC INT a;INT b=IF TRUE THEN a ELSE 1 FI;1", 3, "");
        stepsAre("LOC INT a;INT b=IF TRUE THEN a ELSE 1 FI;1", 7, "2");
        stepsAre("PRINT(IF TRUE THEN 1 ELSE(LOC INT:=2)FI)", 8, "");
        stepsAre("PRINT(IF TRUE THEN 1 ELSE(LOC INT:=2)FI)", 9, "2");
    }

    private static void modeIs(String text, int k, int walk, String want) {
        AlgolHouse house = house(text);
        Check.due("mode of " + k + " in " + text, house.mode(0, k, walk) + " " + house.parts(0, k, walk), want);
    }

    private static void modes() {
        modeIs("1", 1, 0, "0 0");
        modeIs("LONG 1", 1, 0, "1 0");
        modeIs("TRUE", 1, 0, "2 0");
        modeIs("PRINT(1)", 1, 0, "3 0");
        modeIs("PRINT(1)", 0, 0, "3 0");
        modeIs("1", 1, 1, "-1 -1");
        modeIs("1", 1, 0x10, "-1 -1");
        modeIs("SKIP", 0, 0, "-1 -1");
        modeIs("SKIP", 1, 0, "-1 -1");
        modeIs("[]INT a=(1,2);1", 1, 0, "-1 -1");
        modeIs("[]INT a=(1,2);1", 2, 0, "-1 -1");
        modeIs("REF INT a=NIL;a", 2, 0, "-1 -1");
        modeIs("LOC INT a;1", 1, 0, "-1 -1");
        modeIs("OP A=(INT a)INT:a;1", 1, 0, "-1 -1");
        String routine = "(INT a,REF[]BOOL b)LONG:SKIP";
        modeIs(routine, 1, 0, "5 2");
        modeIs(routine, 1, 1, "0 0");
        modeIs(routine, 1, 2, "4 0");
        modeIs(routine, 1, 0x52, "6 0");
        modeIs(routine, 1, 0xF02, "2 0");
        modeIs(routine, 1, 0x102, "2 0");
        modeIs(routine, 1, 3, "-1 -1");
        modeIs(routine, 1, 15, "1 0");
        modeIs(routine, 1, 0x10, "-1 -1");
        String list = "MODE A=STRUCT(INT v,REF A n,UNION(INT,BOOL,INT)u);LOC A a";
        modeIs(list + ";a", 2, 0, "4 0");
        modeIs(list + ";a", 2, 0xF, "7 3");
        modeIs(list + ";a", 2, 0x1F, "0 0");
        modeIs(list + ";a", 2, 0x3F, "8 2");
        modeIs(list + ";a", 2, 0x13F, "-1 -1");
        modeIs(list + ";a", 2, 0x4F, "-1 -1");
        modeIs(list + ";a", 2, 0xF2F2F2FF, "-1 -1");
        modeIs(list + ";a", 2, 0x2F2F2F2F, "4 0");
        modeIs(list + ";a", 2, 0xF2F2F2F, "7 3");
        modeIs(list + ";n OF a", 2, 0xF2F2F2F1, "7 3");
        modeIs(list + ";u OF a", 2, 1, "8 2");
        modeIs(list + ";n OF n OF a", 2, 0x11, "7 3");
        modeIs("LOC[1:2]INT a;a[1]", 4, 0, "4 0");
        modeIs("LOC[1:2]INT a;a[1:2]", 4, 0, "6 0");
        modeIs("[]INT a=1;a[1]", 3, 0, "0 0");
        modeIs("[]INT a=1;a[1:2]", 3, 0, "6 0");
        modeIs("LOC INT a;a:=1", 2, 0, "4 0");
        modeIs("IF TRUE THEN SKIP ELSE(2;1)FI", 1, 0, "0 0");
        modeIs("LOC INT", 1, 0, "4 0");
        modeIs("LOC INT a;a IS a", 2, 0, "2 0");
        modeIs("UPB([]INT(1))", 1, 0, "0 0");
        modeIs("DO 1 OD", 1, 0, "3 0");
        modeIs("OP A=(INT a)LONG:1;A 1", 4, 0, "1 0");
        modeIs("1=2", 1, 0, "2 0");
        modeIs("LONG 1+LONG 2", 1, 0, "1 0");
        modeIs("PROC(INT)BOOL f=SKIP;f(1)", 3, 0, "2 0");
    }

    private static void oneness() {
        AlgolHouse house = new AlgolHouse();
        Check.read(house, "MODE A=STRUCT(INT v,REF A n);LOC A a;a;SKIP");
        Check.read(house, "MODE B=STRUCT(INT v,REF C n);MODE C=STRUCT(INT v,REF B n);LOC B b;b;LOC C c;c");
        Check.read(house, "LOC STRUCT(INT v,REF STRUCT(INT w)n)d;d;1;UNION(INT,BOOL)(1);UNION(BOOL,INT,INT)(1)");
        Check.due("unfold alike", house.one(0, 2, 1, 2), true);
        Check.due("unfold alike", house.one(1, 2, 1, 4), true);
        Check.due("in one program", house.one(0, 2, 0, 2), true);
        Check.due("other TAGS", house.one(0, 2, 2, 2), false);
        Check.due("REF and INT", house.one(0, 2, 2, 3), false);
        Check.due("a UNION is a set", house.one(2, 4, 2, 7), true);
        Check.due("none", house.one(0, 3, 0, 3), false);
        Check.due("none", house.one(0, 3, 0, 2), false);
        AlgolHouse other = new AlgolHouse();
        Check.read(other, "MODE A=STRUCT(UNION(INT,REF A)u);LOC A a;a");
        Check.read(other, "MODE B=STRUCT(UNION(REF STRUCT(UNION(REF B,INT)u),INT,REF B)u);LOC B a;a");
        Check.due("UNIONS unfold", other.one(0, 2, 1, 2), true);
        Check.due("back", other.one(1, 2, 0, 2), true);
        Check.due("PROCS", house.one(2, 3, 0, 2), false);
    }

    private static void meantIs(String text, int k, int want) {
        Check.due("meant by " + k + " in " + text, house(text).meant(0, k), want);
    }

    private static void meaning() {
        meantIs("INT a=1;a", 3, 1);
        meantIs("LOC INT a;a", 2, 1);
        meantIs("(INT a)INT:a", 2, 1);
        meantIs("FOR i TO 1 DO i OD", 4, 1);
        meantIs("CASE UNION(INT,BOOL)(1)WHEN(BOOL b):1,(INT a):a ESAC", 7, 1);
        meantIs("INT a=1;(INT a=2;a)", 6, 4);
        meantIs("INT a=1;(a;INT a=2;a)", 4, 5);
        meantIs("1+2", 1, -1);
        meantIs("1+2", 0, -1);
        meantIs("OP +=(INT a,INT b)INT:1;1+2", 4, 1);
        meantIs("OP +=(BOOL a,INT b)INT:1;1+2", 4, -1);
        meantIs("OP +=(INT a,INT b)INT:1;OP +=(INT a,INT b)INT:1;1+2", 7, 1);
        meantIs("OP +=(INT a,INT b)INT:1;(1+2;OP +=(INT a,INT b)INT:1;1)", 5, 8);
        meantIs("OP -=(INT a,INT b)INT:1;OP -=(INT a)INT:1;-2", 7, 4);
        meantIs("OP A=(UNION(INT,BOOL)a)INT:1;OP A=(INT a)INT:1;A 2", 7, 1);
    }

    private static void wrongCalls() {
        AlgolHouse house = house("1");
        String index = "IndexOutOfBoundsException";
        String argument = "IllegalArgumentException";
        Check.due("nodes", house.nodes(0), 2);
        Check.due("nodes(-1)", Check.answer(() -> house.nodes(-1)), index);
        Check.due("nodes(1)", Check.answer(() -> house.nodes(1)), index);
        Check.due("node", Check.answer(() -> house.node(1, 0, 9)), index);
        Check.due("node", Check.answer(() -> house.node(0, 2, 9)), index);
        Check.due("node", Check.answer(() -> house.node(0, -1, 0)), index);
        Check.due("node", Check.answer(() -> house.node(0, 0, 4)), argument);
        Check.due("node", Check.answer(() -> house.node(0, 0, -1)), argument);
        Check.due("step", Check.answer(() -> house.step(0, 2, 0)), index);
        Check.due("step", Check.answer(() -> house.step(1, 0, 0)), index);
        Check.due("step", house.step(0, 1, Integer.MAX_VALUE) + house.step(0, 1, Integer.MIN_VALUE), 0);
        Check.due("mode", Check.answer(() -> house.mode(0, 2, 0)), index);
        Check.due("mode", Check.answer(() -> house.mode(-1, 0, 0)), index);
        Check.due("parts", Check.answer(() -> house.parts(0, -1, 0)), index);
        Check.due("parts", Check.answer(() -> house.parts(2, 0, 0)), index);
        Check.due("one", Check.answer(() -> house.one(0, 0, 1, 0)), index);
        Check.due("one", Check.answer(() -> house.one(0, 2, 0, 0)), index);
        Check.due("one", Check.answer(() -> house.one(0, 0, 0, 2)), index);
        Check.due("meant", Check.answer(() -> house.meant(0, 2)), index);
        Check.due("meant", Check.answer(() -> house.meant(9, 0)), index);
    }
}
