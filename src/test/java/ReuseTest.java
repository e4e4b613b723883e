/** One house for many texts: what a text, a run, all orders answer never depends on those before. */
public final class ReuseTest {
    private static final String[] TEXTS = {"1", "a", "(((((((((((((1", "((((((((((((((((((((((((1))))))))))))))))))))))))",
        "1 A 2 B 3", "(INT a,INT b,INT c,", "MODE A=INT;MODE B=BOOL;A a=1;B b=TRUE;PRINT(a)",
        "OP A=(INT a)INT:a+1;OP B=(INT a,INT b)INT:a-b;PRINT(A 2 B 3 B 4)", "PRIO B=9;OP B=(INT a,INT b)INT:a-b;PRINT(9 B 2*3)",
        "MODE A=STRUCT(INT v,REF A n);LOC A a;a:=(1,NIL);PRINT(v OF a);a",
        "LOC[1:9]INT a;LOC[1:9]INT b;PRINT(UPB b);a[3]:=4;PRINT(a[3])",
        "LOC[]INT a;LOC[]INT b;PRINT(UPB a);PRINT(UPB b);LOC[]INT c;PRINT(UPB c)",
        "LOC INT a;LOC STRUCT(INT p,[]INT q)b;PRINT(UPB q OF b);PRINT(a)",
        "UNION(INT,BOOL)u=1;CASE u WHEN(INT i):PRINT(i),(BOOL b):PRINT(b)ESAC", "CASE u WHEN(INT i):CASE u WHEN(REF INT r):",
        "LOC STRUCT(INT p,INT p)a;1", "LOC VOID a;1", "MODE A=REF A;1", "LOC UNION(INT)u;1", "INT a=TRUE;1", "TRUE+1",
        "INT a=1;INT a=2;1", "MODE A=INT;MODE A=INT;1", "(PRINT(1);1)+(PRINT(2);2)*(PRINT(3);3)",
        "[]INT a=((PRINT(1);1),(PRINT(2);2),(PRINT(3);3));PRINT(a[2])", "DO SKIP OD", "PROC INT f=INT:f;f", "1/0",
        "FOR i TO 3 DO LOC INT a:=i;PRINT(a)OD", "PROC(INT)INT f=(INT n)INT:IF n<1 THEN 0 ELSE n+f(n-1)FI;PRINT(f(4))",
        "LOC REF INT r;(r:=LOC INT;1)", "LOC INT a:=1;INT b=a;LONG c=b;[]LONG d=c;UNION(INT,[]LONG)e=d;PRINT(1)",
        "REF INT a=NIL;a IS NIL;PRINT(a ISNT NIL)", "$", ""};
    private static final int NODES_SHOWN = 40;

    private ReuseTest() {
    }

    public static void main(String[] args) {
        String[] alone = new String[TEXTS.length];
        for (int i = 0; i < TEXTS.length; i++) {
            alone[i] = all(new AlgolHouse(), TEXTS[i]);
        }
        for (int i = 0; i < TEXTS.length; i++) {
            for (int j = 0; j < TEXTS.length; j++) {
                behind(TEXTS[i], TEXTS[j], alone[j], (i + j) % 2 == 0);
            }
        }
        manyRuns();
        seedsBehindOrders();
        Check.end();
    }

    private static void behind(String before, String text, String want, boolean clear) {
        AlgolHouse house = new AlgolHouse();
        int p = Check.read(house, before);
        if (p >= 0) {
            house.run(p, 3, 999);
            house.orders(p, 999, 30);
        }
        if (clear) {
            house.clear();
        }
        Check.due(text + " behind " + before, all(house, text), want);
    }

    /* What reading a text, running it, and all its orders answer. */
    private static String all(AlgolHouse house, String text) {
        int p = Check.read(house, text);
        if (p < 0) {
            return "fault " + house.fault(0) + " " + house.fault(1);
        }
        StringBuilder all = new StringBuilder();
        for (int k = 0; k < house.nodes(p) && k < NODES_SHOWN; k++) {
            all.append(house.node(p, k, 0)).append('@').append(house.node(p, k, 1)).append('/').append(house.node(p, k, 2))
                    .append(' ')
                    .append(house.node(p, k, 3)).append(house.step(p, k, 0)).append(' ').append(house.mode(p, k, 0)).append(' ')
                            .append(house.meant(p, k)).append(',');
        }
        house.run(p, 5, 999);
        all.append(Check.told(house));
        house.run(p, 0, 999);
        all.append(Check.told(house));
        int count = house.orders(p, 999, 30);
        all.append(count);
        for (int i = 0; i < count; i++) {
            all.append('|').append(house.outcome(i, 0)).append(house.outcome(i, 1)).append(house.outcome(i, 2))
                    .append(house.outcome(i, 3));
        }
        house.run(p, 5, 999);
        return all.append(house.told() > 0 ? " " + house.number(house.told() - 1) : "").toString();
    }

    /* What a run makes is gone with it, also with one that fails: the last of many is like the first. */
    private static void manyRuns() {
        String text = "FOR i TO 30 DO[]INT b=(i,i+1);[]INT c=(3,4);STRUCT(INT p,INT q)s=(b[1],c[2]);LOC[]INT d:=c;d:=b;"
                + "PRINT(b[2]*c[2]+q OF s)OD";
        AlgolHouse house = new AlgolHouse();
        Check.due("a program", Check.read(house, text), 0);
        Check.due("another", Check.read(house, "PROC(INT)INT f=(INT n)INT:1+(2+(3+f(n)));f(1)"), 1);
        Check.due("run", house.run(0, 7, 3000), 0);
        String first = Check.told(house);
        Check.due("it ends", first.endsWith(" I120 I124 I128"), true);
        for (int i = 0; i < 100; i++) {
            Check.due("too deep", house.run(1, 0, 3000), 6);
            house.run(0, i, 3000);
        }
        house.run(0, 7, 3000);
        Check.due("the last run", Check.told(house), first);
    }

    /* orders() leaves no DRAWS to a run behind it, nor a run to orders(). */
    private static void seedsBehindOrders() {
        String text = "[]INT a=((PRINT(1);1),(PRINT(2);2),(PRINT(3);3),(PRINT(4);4));1";
        AlgolHouse house = new AlgolHouse();
        Check.due("a program", Check.read(house, text), 0);
        for (int seed = -2; seed < 8; seed++) {
            String want = Check.run(text, seed, 999);
            house.run(0, seed, 999);
            Check.due("ahead by " + seed, Check.told(house), want);
            if (seed % 3 == 0) {
                house.orders(0, 999, seed % 2 == 0 ? 200 : 2);
                house.run(0, seed, 999);
                Check.due("behind by " + seed, Check.told(house), want);
            }
        }
    }
}
