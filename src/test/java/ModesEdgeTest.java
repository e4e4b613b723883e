/** Term 3, sentence by sentence: which modes are ONE, and the faults 2 and 4 of a text's modes in their order. */
public final class ModesEdgeTest {
    /* Parts of texts that have a fault each; the number ahead says in which turn it is looked for, and which it is. */
    private static final String[] FAULTS = {"12MODE A=INT;MODE |A=INT", "12PRIO P=1;PRIO |P=1",
        "12(MODE D=INT;1);(MODE |D=BOOL;1)", "24MODE |B=REF B", "24MODE |C=STRUCT(C c)", "24MODE |E=UNION(INT,[]E)",
        "34LOC |VOID v", "32LOC STRUCT(INT f,INT |f)s", "32(INT p,BOOL |p)INT:1", "34LOC |UNION(INT)u",
        "34LOC |UNION(INT,REF INT)w", "42INT z=1;INT |z=2", "53|x", "55INT y=|TRUE", "56(1|+TRUE)", "52(INT k=1;LOC INT |k;1)"};

    private ModesEdgeTest() {
    }

    public static void main(String[] args) {
        orderOfFaults();
        twice();
        roads();
        voids();
        tagsTwice();
        unions();
        oneModes();
        firstMode();
        Check.end();
    }

    /* Of two faults that of the earlier turn is told; in one turn that which stands first. */
    private static void orderOfFaults() {
        for (String one : FAULTS) {
            Check.faultyAt(one.charAt(1) - '0', one.substring(2) + ";1");
            Check.syntaxAt(Check.plain(one.substring(2)) + ";1 |1");
            Check.syntaxAt("1 |1;" + Check.plain(one.substring(2)) + ";1");
            for (String other : FAULTS) {
                if (!one.equals(other)) {
                    boolean first = one.charAt(0) <= other.charAt(0);
                    String told = first ? one.substring(2) + ";" + Check.plain(other.substring(2))
                            : Check.plain(one.substring(2)) + ";" + other.substring(2);
                    Check.faultyAt((first ? one : other).charAt(1) - '0', told + ";1");
                }
            }
        }
    }

    private static void twice() {
        Check.faultyAt(2, "MODE A=INT;MODE B=INT;MODE |A=INT;MODE B=INT;1");
        Check.faultyAt(2, "MODE A=INT;MODE B=INT;MODE |B=INT;MODE A=INT;1");
        Check.faultyAt(2, "PRIO P=1;MODE A=INT;PRIO |P=1;MODE A=INT;1");
        Check.faultyAt(2, "MODE A=INT;PRIO P=1;MODE |A=INT;PRIO P=1;1");
        Check.faultyAt(2, "MODE A=INT;MODE |A=INT;MODE A=INT;1");
        Check.faultyAt(2, "(MODE A=INT;1);(PROC INT f=INT:(MODE |A=INT;1);1)");
        Check.good("MODE A=INT;PRIO P=1;MODE B=INT;PRIO Q=1;1");
        Check.syntaxAt("MODE A=INT;PRIO |A=1;1");
        Check.syntaxAt("PRIO |A=1;MODE A=INT;1");
        Check.good("PRIO P=1;OP P=(INT a,INT b)INT:1;OP P=(INT a)INT:1;1");
    }

    private static void roads() {
        String[] open = {"A", "REF A", "[]A", "PROC A", "PROC(A)INT", "PROC(INT,A)VOID", "UNION(A,INT)", "UNION(INT,BOOL,A)",
            "REF REF A", "REF[]PROC A", "PROC(REF A)INT", "UNION(INT,REF A)", "UNION(INT,[]A)", "[]UNION(BOOL,A)"};
        for (String road : open) {
            Check.faultyAt(4, "MODE |A=" + road + ";1");
            Check.faultyAt(4, "MODE |A=B;MODE B=" + road + ";1");
            Check.faultyAt(4, "MODE B=INT;MODE |A=C;MODE C=D;MODE D=" + road + ";1");
            Check.faultyAt(4, "MODE |B=" + road + ";MODE A=B;1");
        }
        String[] closed = {"STRUCT(A a)", "STRUCT(INT b,A a)", "STRUCT(STRUCT(A a)b)", "STRUCT(UNION(INT,A)a)",
            "UNION(INT,STRUCT(A a))", "STRUCT(INT a,UNION(BOOL,STRUCT(A c))b)"};
        for (String road : closed) {
            Check.faultyAt(4, "MODE |A=" + road + ";1");
            Check.faultyAt(4, "MODE |A=B;MODE B=" + road + ";1");
        }
        String[] right = {"STRUCT(REF A a)", "STRUCT([]A a)", "STRUCT(PROC A a)", "STRUCT(PROC(A)INT a)", "REF STRUCT(A a)",
            "[]STRUCT(A a)", "PROC STRUCT(A a)", "PROC(STRUCT(A a))INT", "STRUCT(UNION(INT,REF A)a)",
            "UNION(INT,REF STRUCT(A a))", "STRUCT(REF STRUCT(A a)b)", "STRUCT(STRUCT(REF A a)b,INT c)",
            "UNION(INT,STRUCT(REF A a))"};
        for (String road : right) {
            Check.good("MODE A=" + road + ";1");
            Check.good("MODE A=B;MODE B=" + road + ";1");
        }
        Check.faultyAt(4, "MODE A=REF B;MODE |B=REF B;1");
        Check.faultyAt(4, "MODE A=STRUCT(REF A a,B b);MODE |B=STRUCT(B b);1");
        Check.faultyAt(4, "MODE |B=REF A;MODE A=UNION(STRUCT(B b),REF B);1");
        Check.faultyAt(4, "MODE A=STRUCT(REF A a);MODE B=[]C;MODE C=STRUCT(A a,B b);MODE |D=D;1");
        Check.good("MODE B=[]C;MODE C=STRUCT(B b);1");
        Check.good("MODE A=STRUCT(B b);MODE B=REF A;MODE C=STRUCT(A a,B b);1");
    }

    private static void voids() {
        Check.good("VOID:1;VOID(1);PROC VOID a=VOID:SKIP;PROC(INT)VOID b=(INT i)VOID:SKIP;1");
        Check.good("LOC REF PROC VOID a;LOC[]PROC(INT)VOID b;1");
        Check.good("(INT a)VOID:1;OP A=(INT a)VOID:SKIP;1");
        String[] wrong = {"|VOID a=1;1", "LOC |VOID a;1", "HEAP |VOID a;1", "LOC |VOID", "MODE A=|VOID;1", "REF |VOID a=NIL;1",
            "[]|VOID a=SKIP;1", "REF |VOID(NIL);1", "[]|VOID(SKIP);1", "LOC STRUCT(|VOID a)b;1", "LOC STRUCT(INT b,|VOID a)b;1",
            "LOC UNION(INT,|VOID)a;1", "LOC PROC(|VOID)INT a;1", "(|VOID a)INT:1", "(INT b,|VOID a)INT:1", "REF |VOID:NIL",
            "CASE UNION(INT,BOOL)(1)WHEN(|VOID a):1 ESAC", "PROC REF |VOID a=SKIP;1", "LOC[1:2]|VOID a;1", "LOC[1:2]|VOID",
            "OP A=(|VOID a)INT:1;1", "(INT a)REF |VOID:NIL", "LOC PROC(PROC(|VOID)VOID)VOID a;1"};
        for (String marked : wrong) {
            Check.faultyAt(4, marked);
        }
    }

    private static void tagsTwice() {
        Check.faultyAt(2, "LOC STRUCT(INT a,BOOL b,LONG |a)c;1");
        Check.faultyAt(2, "LOC STRUCT(INT a,BOOL |a,LONG a)c;1");
        Check.good("LOC STRUCT(INT a,STRUCT(INT a,INT b)b)c;1");
        Check.faultyAt(2, "LOC STRUCT(STRUCT(INT a,INT b)a,INT b,INT |a)c;1");
        Check.faultyAt(2, "(INT a,INT b,INT |b)INT:1");
        Check.good("(INT a,STRUCT(INT a,INT b)b)INT:1");
        Check.good("(INT a)PROC(INT)INT:(INT a)INT:a");
        Check.faultyAt(2, "PROC(INT,INT)INT f=(INT a,INT |a)INT:1;1");
        Check.faultyAt(2, "OP A=(INT a,INT |a)INT:1;1");
        Check.faultyAt(2, "PROC(INT)INT f=(INT a)INT:((INT b,INT |b)INT:1;1);1");
        Check.faultyAt(2, "LOC STRUCT(INT abcdefgh,INT abcdefgi,INT |abcdefgh)c;1");
        Check.good("LOC STRUCT(INT abcdefgh,INT abcdefgi)c;1");
    }

    private static void unions() {
        String[] wrong = {"UNION(INT)", "UNION(INT,INT)", "UNION(INT,INT,INT)", "UNION(REF INT,INT)", "UNION(INT,REF INT)",
            "UNION(INT,PROC INT)", "UNION(INT,REF REF INT)", "UNION(INT,REF PROC REF INT)", "UNION(INT,BOOL,PROC REF BOOL)",
            "UNION([]INT,REF[]INT)", "UNION(PROC INT,REF PROC INT)", "UNION(UNION(INT,BOOL),REF BOOL)",
            "UNION(STRUCT(INT a),STRUCT(INT a))", "UNION(REF BOOL,UNION(INT,BOOL))"};
        for (String union : wrong) {
            Check.faultyAt(4, "LOC |" + union + " u;1");
            Check.faultyAt(4, "MODE U=|" + union + ";1");
        }
        String[] right = {"UNION(INT,BOOL)", "UNION(INT,LONG)", "UNION(INT,INT,BOOL)", "UNION(UNION(INT,BOOL))",
            "UNION(UNION(INT,BOOL),INT)", "UNION(INT,PROC(INT)INT)", "UNION(INT,[]INT)", "UNION(INT,REF[]INT)",
            "UNION(REF INT,PROC INT)", "UNION(INT,REF LONG)", "UNION(REF INT,REF BOOL)", "UNION(INT,PROC VOID)",
            "UNION(INT,STRUCT(INT a))", "UNION(INT,REF UNION(INT,BOOL))", "UNION(STRUCT(INT a),STRUCT(INT b))",
            "UNION(PROC(INT)INT,PROC(INT)BOOL)"};
        for (String union : right) {
            Check.good("LOC " + union + " u;1");
        }
        Check.faultyAt(4, "MODE A=INT;LOC |UNION(A,INT)u;1");
        Check.faultyAt(4, "MODE A=REF INT;LOC |UNION(A,INT)u;1");
        Check.faultyAt(4, "LOC |UNION(A,B)u;MODE A=STRUCT(REF A a);MODE B=STRUCT(REF B a);1");
        Check.good("LOC UNION(A,B)u;MODE A=STRUCT(REF A a);MODE B=STRUCT(REF B b);1");
        Check.faultyAt(4, "MODE U=|UNION(V,INT);MODE V=UNION(INT);1");
        Check.good("MODE U=UNION(V,BOOL);MODE V=UNION(INT,LONG);1");
        Check.faultyAt(4, "MODE U=UNION(V,BOOL);MODE V=|UNION(INT);1");
        Check.faultyAt(4, "LOC UNION(INT,|UNION(BOOL))u;1");
        Check.faultyAt(4, "|UNION(INT)u=1;1");
        Check.faultyAt(4, "|UNION(INT)u=1;UNION(BOOL)v=1;1");
        Check.faultyAt(4, "|UNION(UNION(INT),UNION(INT))u=1;1");
        String many = "MODE C=UNION(INT,BOOL);MODE B=UNION(C,C,C,C,C,C,C,C);MODE A=UNION(B,B,B,B,B,B,B,B);"
                + "MODE D=UNION(A,A,A,A,A,A,A,A);"
                + "MODE E=UNION(D,D,D,D,D,D,D,D);";
        Check.prints(many + "E e=3;CASE e WHEN(BOOL b):PRINT(b),(C c):PRINT(4)ESAC", "I4");
        Check.faultyAt(4, "LOC UNION(INT,REF |UNION(BOOL,BOOL))u;1");
        Check.faultyAt(4, "CASE UNION(INT,BOOL)(1)WHEN(|UNION(INT)a):1 ESAC");
    }

    private static AlgolHouse read(String... texts) {
        AlgolHouse house = new AlgolHouse();
        for (String text : texts) {
            Check.due("a program: " + text, Check.read(house, text) >= 0, true);
        }
        return house;
    }

    /* Whether two DECLARERS are ONE mode, in one text and in two. */
    private static void areOne(String modes, String one, String other, boolean want) {
        AlgolHouse house = read(modes + "LOC " + one + ";LOC " + other, modes + "LOC " + one, modes + "LOC " + other);
        Check.due(one + " and " + other + " in one text", house.one(0, 1, 0, 2), want);
        Check.due(one + " and " + other + " in two", house.one(1, 1, 2, 1), want);
        Check.due(other + " and " + one + " in two", house.one(2, 1, 1, 1), want);
        Check.due(one + " and itself", house.one(0, 1, 1, 1), true);
        String come = modes + "REF " + other + " a=LOC " + one + ";1";
        Check.due("comes: " + come, Check.fault(come).equals("0 -1"), want);
    }

    private static void oneModes() {
        areOne("", "INT", "INT", true);
        areOne("", "INT", "LONG", false);
        areOne("", "REF INT", "REF INT", true);
        areOne("", "REF INT", "REF BOOL", false);
        areOne("", "[]INT", "[]INT", true);
        areOne("", "[]INT", "[][]INT", false);
        areOne("", "PROC INT", "PROC INT", true);
        areOne("", "PROC INT", "REF INT", false);
        areOne("", "PROC(INT)INT", "PROC(INT)BOOL", false);
        areOne("", "PROC(INT)INT", "PROC(BOOL)INT", false);
        areOne("", "PROC(INT)INT", "PROC INT", false);
        areOne("", "PROC(INT,INT)INT", "PROC(INT)INT", false);
        areOne("", "PROC(INT,BOOL)INT", "PROC(BOOL,INT)INT", false);
        areOne("", "STRUCT(INT a)", "STRUCT(INT a)", true);
        areOne("", "STRUCT(INT a)", "STRUCT(INT b)", false);
        areOne("", "STRUCT(INT a,INT b)", "STRUCT(INT b,INT a)", false);
        areOne("", "STRUCT(INT a,BOOL b)", "STRUCT(INT a,INT b)", false);
        areOne("", "STRUCT(INT a,INT b)", "STRUCT(INT a)", false);
        areOne("", "UNION(INT,BOOL)", "UNION(BOOL,INT)", true);
        areOne("", "UNION(INT,BOOL)", "UNION(BOOL,INT,BOOL)", true);
        areOne("", "UNION(INT,BOOL)", "UNION(BOOL,LONG)", false);
        areOne("", "UNION(INT,BOOL)", "UNION(INT,BOOL,LONG)", false);
        areOne("", "UNION(INT,UNION(BOOL,LONG))", "UNION(LONG,BOOL,INT)", true);
        areOne("MODE A=INT;MODE B=A;", "A", "INT", true);
        areOne("MODE A=INT;MODE B=A;", "B", "A", true);
        areOne("MODE A=STRUCT(REF A n);MODE B=STRUCT(REF B n);", "A", "B", true);
        areOne("MODE A=STRUCT(REF A n);MODE B=STRUCT(REF B m);", "A", "B", false);
        areOne("MODE A=STRUCT(REF A n);", "A", "STRUCT(REF A n)", true);
        areOne("MODE A=STRUCT(REF A n);", "A", "STRUCT(REF STRUCT(REF A n)n)", true);
        areOne("MODE A=STRUCT(REF A n);", "A", "STRUCT(REF STRUCT(REF INT n)n)", false);
        areOne("MODE A=STRUCT(REF A n);MODE B=STRUCT(REF C n);MODE C=STRUCT(REF B n);", "A", "C", true);
        areOne("MODE A=STRUCT(REF A n,INT v);MODE B=STRUCT(REF C n,INT v);MODE C=STRUCT(REF B n,BOOL v);", "A", "B", false);
        areOne("MODE A=STRUCT(PROC(A)A f);MODE B=STRUCT(PROC(A)B f);", "A", "B", true);
        areOne("MODE A=STRUCT(UNION(INT,REF A)u);MODE B=STRUCT(UNION(REF A,INT,REF B)u);", "A", "B", true);
        areOne("MODE A=REF STRUCT(A a);", "A", "REF STRUCT(REF STRUCT(A a)a)", true);
    }

    private static void firstMode() {
        Check.prints("A a=3;PRINT(a);MODE A=INT;1", "I3");
        Check.prints("(A a=3;PRINT(a));(MODE A=INT;1)", "I3");
        Check.good("MODE A=STRUCT(B b,INT i);MODE B=STRUCT(BOOL c,LONG l);LOC A a;LONG l=l OF b OF a;1");
    }
}
