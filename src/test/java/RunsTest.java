/** Promises 14 to 18: run, told, number, kind, ran. */
public final class RunsTest {
    private RunsTest() {
    }

    public static void main(String[] args) {
        stepsAndPlaces();
        numbers();
        undefined();
        nil();
        bounds();
        ages();
        room();
        tooFewSteps();
        clauses();
        loops();
        unions();
        rowsAndStructs();
        routines();
        seeds();
        wrongCalls();
        Check.end();
    }

    private static void runIs(String text, String want) {
        Check.due("run of " + text, Check.run(text, 0, 3000), want);
    }

    private static String many(String part, int times) {
        return part.repeat(times);
    }

    private static void stepsAndPlaces() {
        runIs("1", "0 -1 3 0 1 :");
        runIs("SKIP", "0 -1 2 0 1 :");
        runIs("PRINT(1)", "0 -1 3 0 1 : I1");
        runIs("LOC INT a:=5;PRINT(a)", "0 -1 6 1 1 : I5");
        runIs("[]LONG a=1;1", "0 -1 7 0 1 :");
        runIs("LOC STRUCT(INT a,INT b)s:=(1,2);STRUCT(INT a,INT b)t=s;PRINT(b OF t)", "0 -1 13 3 1 : I2");
        runIs("PROC INT f=INT:3;PRINT(f)", "0 -1 7 0 2 : I3");
        runIs("PROC(INT)INT f=(INT n)INT:(n+1);PRINT(f(2))", "0 -1 11 0 3 : I3");
        runIs("OP A=(INT n)INT:n;PRINT(A 2)", "0 -1 7 0 2 : I2");
        runIs("PRINT(A 2);OP A=(INT n)INT:n;1", "0 -1 9 0 2 : I2");
        runIs("TO 2 DO 1 OD", "0 -1 11 0 3 :");
        runIs("FOR i TO 2 WHILE i=1 DO PRINT(i)OD", "0 -1 16 0 3 : I1");
        runIs("IF TRUE THEN 1 FI", "0 -1 7 0 2 :");
        runIs("PRINT(CASE 2 IN 5,6 ESAC)", "0 -1 6 0 2 : I6");
        runIs("CASE UNION(INT,BOOL)(TRUE)WHEN(BOOL b):PRINT(b)ESAC", "0 -1 9 0 3 : B1");
        runIs("LOC[1:2]INT a;a[1]:=7;PRINT(a[1])", "0 -1 15 3 1 : I7");
        runIs("LOC[1:3]INT a;[]INT b=a[2:3];PRINT(UPB b)", "0 -1 14 4 1 : I2");
        runIs("[]INT a=(1,2,3);[]INT b=a[2:3];PRINT(b[1])", "0 -1 15 0 1 : I2");
        runIs("MODE A=INT;PRIO B=1;PRINT(LONG 5)", "0 -1 3 0 1 : L5");
        runIs("PRINT(TRUE);PRINT(FALSE);PRINT(LENG 1)", "0 -1 8 0 1 : B1 B0 L1");
    }

    private static void numbers() {
        Check.prints("PRINT(7/2);PRINT(-7/2);PRINT(-7%2);PRINT(7%-2)", "I3 I-3 I-1 I1");
        Check.prints("PRINT(2147483647);PRINT(-2147483647-1)", "I2147483647 I-2147483648");
        Check.fails("2147483647+1", 5, 10);
        Check.fails("-2147483647-2", 5, 11);
        Check.fails("65536*65536", 5, 5);
        Check.fails("INT a=-2147483647-1;-a", 5, 20);
        Check.fails("INT a=-2147483647-1;a/-1", 5, 21);
        Check.prints("INT a=-2147483647-1;PRINT(a%-1)", "I0");
        Check.fails("1/0", 5, 1);
        Check.fails("1%0", 5, 1);
        Check.fails("LONG 1/LONG 0", 5, 6);
        Check.prints("PRINT(LENG 2147483647+LONG 1)", "L2147483648");
        Check.fails("SHORTEN(LENG 2147483647+LONG 1)", 5, 0);
        Check.prints("PRINT(SHORTEN LONG 7)", "I7");
        String big = "LONG a=LONG 2147483647*LONG 2147483647*LONG 2+LONG 2147483647*LONG 4+LONG 1;";
        Check.prints(big + "PRINT(a);PRINT(-a-LONG 1)", "L9223372036854775807 L-9223372036854775808");
        Check.fails(big + "a+LONG 1", 5, big.length() + 1);
        Check.fails(big + "LONG b=-a-LONG 1;b-LONG 1", 5, big.length() + 18);
        Check.fails(big + "LONG b=-a-LONG 1;-b", 5, big.length() + 17);
        Check.fails(big + "LONG b=-a-LONG 1;b*(-LONG 1)", 5, big.length() + 18);
        Check.fails(big + "LONG b=-a-LONG 1;(-LONG 1)*b", 5, big.length() + 26);
        Check.fails(big + "LONG b=-a-LONG 1;b/(-LONG 1)", 5, big.length() + 18);
        Check.prints(big + "LONG b=-a-LONG 1;PRINT(b%(-LONG 1))", "L0");
        Check.fails(big + "a*LONG 2", 5, big.length() + 1);
        Check.prints("PRINT(1<2&2<=2&3>2&3>=3);PRINT(1=2!1/=2);PRINT(~TRUE);PRINT(TRUE=FALSE);PRINT(TRUE/=FALSE)",
                "B1 B1 B0 B0 B1");
        Check.prints("PRINT(LONG 1<LONG 2);PRINT(LONG 3=LONG 3);PRINT(+3);PRINT(- -3)", "B1 B1 I3 I3");
    }

    private static void undefined() {
        Check.fails("LOC INT a;PRINT(a)", 1, 10);
        Check.fails("LOC INT a;a+1", 1, 11);
        Check.fails("LOC BOOL a;~a", 1, 11);
        Check.prints("LOC INT a;LOC INT b:=a;INT c=b;1", "");
        Check.fails("a;INT a=1;1", 1, 0);
        Check.fails("INT a=a;1", 1, 6);
        Check.fails("LOC INT a:=(a;1);1", 1, 12);
        Check.fails("REF INT a=SKIP;a:=1", 1, 16);
        Check.fails("REF INT a=SKIP;PRINT(a)", 1, 21);
        Check.fails("REF INT a=SKIP;a IS NIL", 1, 17);
        Check.fails("PROC INT a=SKIP;PRINT(a)", 1, 22);
        Check.fails("PROC(INT)INT a=SKIP;a(1)", 1, 21);
        Check.fails("[]INT a=SKIP;a[1]", 1, 14);
        Check.fails("[]INT a=SKIP;a[1:1]", 1, 14);
        Check.fails("[]INT a=SKIP;UPB a", 1, 13);
        Check.fails("LOC[1:2]INT a:=SKIP;a[1]", 1, 21);
        Check.fails("STRUCT(INT a,INT b)s=SKIP;a OF s", 1, 26);
        Check.fails("LOC STRUCT(INT a,INT b)s;PRINT(a OF s)", 1, 25);
        Check.prints("LOC STRUCT(INT a,INT b)s:=SKIP;a OF s:=1;PRINT(a OF s)", "I1");
        Check.fails("IF SKIP;BOOL(SKIP)THEN 1 FI", 1, 0);
        Check.fails("CASE INT(SKIP)IN 1,2 ESAC", 1, 0);
        Check.fails("CASE UNION(INT,BOOL)(SKIP)WHEN(INT a):1 ESAC", 1, 0);
        Check.fails("CASE UNION(INT,BOOL)(INT(SKIP))WHEN(INT a):PRINT(a)ESAC", 1, 43);
        Check.fails("TO INT(SKIP)DO 1 OD", 1, 0);
        Check.fails("WHILE BOOL(SKIP)DO 1 OD", 1, 0);
        Check.fails("LOC[1:INT(SKIP)]INT;1", 1, 0);
        Check.fails("[]INT a=1;a[INT(SKIP)]", 1, 11);
        Check.fails("INT a=IF FALSE THEN 1 FI;PRINT(a)", 1, 25);
        Check.fails("INT a=CASE 3 IN 1,2 ESAC;PRINT(a)", 1, 25);
    }

    private static void nil() {
        Check.fails("REF INT a=NIL;PRINT(a)", 2, 20);
        Check.fails("REF INT a=NIL;a:=1", 2, 15);
        Check.fails("REF[]INT a=NIL;a[1]", 2, 16);
        Check.fails("REF[]INT a=NIL;a[1:1]", 2, 16);
        Check.fails("REF[]INT a=NIL;LWB a", 2, 15);
        Check.fails("REF STRUCT(INT a,INT b)s=NIL;a OF s", 2, 29);
        Check.prints("REF INT a=NIL;PRINT(a IS NIL);PRINT(a ISNT LOC INT)", "B1 B1");
        Check.prints("LOC INT a;LOC INT b;PRINT(a IS a);PRINT(a IS b);REF INT c=a;PRINT(c IS a)", "B1 B0 B1");
    }

    private static void bounds() {
        Check.fails("[]INT a=(1,2);a[0]", 3, 15);
        Check.fails("[]INT a=(1,2);a[3]", 3, 15);
        Check.fails("LOC[3:4]INT a;a[2]", 3, 15);
        Check.prints("LOC[3:4]INT a;PRINT(LWB a);PRINT(UPB a);a[4]:=1;PRINT(a[4])", "I3 I4 I1");
        Check.fails("LOC[1:2]INT a;a[0:1]", 3, 15);
        Check.fails("LOC[1:2]INT a;a[2:3]", 3, 15);
        Check.prints("LOC[3:4]INT a;PRINT(UPB a[9:8]);PRINT(LWB a[9:8]);PRINT(UPB a[4:4])", "I0 I1 I1");
        Check.prints("[]INT a=(1,2);PRINT(UPB a[-5:-9])", "I0");
        Check.prints("LOC[2:1]INT a;PRINT(LWB a);PRINT(UPB a);LOC[]INT b;PRINT(UPB b)", "I1 I0 I0");
        Check.fails("LOC[-2147483647:2147483647]INT a;1", 6, 0);
    }

    private static void ages() {
        Check.fails("LOC REF INT a;(LOC INT b;a:=b)", 4, 26);
        Check.prints("LOC REF INT a;(HEAP INT b:=2;a:=b);PRINT(a)", "I2");
        Check.fails("REF INT a=(LOC INT b;b);1", 4, 11);
        Check.fails("PRINT((LOC INT b;b:=1))", 4, 7);
        Check.fails("HEAP REF INT a:=LOC INT;1", 4, 0);
        Check.fails("PROC REF INT f=REF INT:LOC INT;REF INT a=f;1", 4, 41);
        Check.fails("PROC(INT)REF INT f=(INT a)REF INT:LOC INT;REF INT a=f(1);1", 4, 53);
        Check.fails("OP A=(INT a)REF INT:LOC INT;REF INT a=A 1;1", 4, 38);
        Check.prints("PROC(REF INT)REF INT f=(REF INT a)REF INT:a;PRINT(f(LOC INT:=4))", "I4");
        Check.fails("PROC INT f=(INT a=1;INT:a);1", 4, 12);
        Check.prints("PROC INT f=(INT a=1;INT:2);PRINT(f)", "I2");
        Check.prints("INT a=1;PROC INT f=(INT b=1;INT:a);PRINT(f)", "I1");
        Check.fails("PROC INT f=(OP A=(INT a)INT:1;INT:A 1);1", 4, 12);
        Check.fails("[]REF INT a=(LOC INT b;[]REF INT(b));1", 4, 13);
        Check.fails("UNION(REF INT,BOOL)a=(LOC INT b;UNION(REF INT,BOOL)(b));1", 4, 22);
        Check.fails("LOC PROC INT f;FOR i TO 1 DO f:=INT:i OD", 4, 30);
        Check.fails("PROC INT f=CASE UNION(INT,BOOL)(1)WHEN(INT a):INT:a ESAC;1", 4, 11);
        Check.fails("LOC STRUCT(REF INT a,INT b)s;(LOC INT x;a OF s:=x)", 4, 46);
    }

    private static void room() {
        Check.prints("LOC[1:64]INT a;LOC[1:64]INT b;LOC[1:64]INT c;LOC[1:64]INT d;LOC[1:39]INT e;PRINT(UPB e)", "I39");
        runIs("LOC[1:64]INT a;LOC[1:64]INT b;LOC[1:64]INT c;LOC[1:64]INT d;LOC[1:40]INT e;1", "6 60 16 260 1 :");
        Check.fails("LOC[1:65]INT a;1", 6, 0);
        runIs("LOC[1:64]STRUCT(INT a,INT b,INT c,INT d)x;1", "6 0 4 0 1 :");
        runIs("LOC[1:50]INT a;LOC[]INT b:=a;b:=a;b:=a;b:=a;PRINT(1);b:=a;1", "6 54 278 252 1 : I1");
        Check.fails("PROC INT f=INT:f;f", 6, 15);
        runIs("PROC INT f=INT:f;f", "6 15 83 0 40 :");
        Check.fails(many("(", 20) + "PROC INT f=INT:(f);f" + many(")", 20), 6, 36);
        Check.prints("FOR i TO 200 DO PRINT(1)OD", many("I1 ", 200).trim());
        Check.fails("FOR i TO 201 DO PRINT(1)OD", 6, 16);
        String rows = "[]INT a=(1,2,3,4,5,6,7,8);[][]INT b=(a,a,a,a,a,a,a,a);";
        Check.prints(rows + "[][][]INT c=(b,b,b,b);PRINT(UPB c)", "I4");
        Check.fails(rows + "[][][]INT c=(b,b,b,b,b);1", 6, rows.length() + 12);
        String more = rows + "[][][]INT c=(b,b,b,b);";
        Check.prints(more + "UNION([][][]INT,INT)u=c;1", "");
        String most = more + "UNION([][][]INT,INT)u=c;[]UNION([][][]INT,INT)v=u;";
        Check.prints(most + "1", "");
    }

    private static void tooFewSteps() {
        String text = "LOC STRUCT(INT a,INT b)s:=(1,2);STRUCT(INT a,INT b)t=s;PRINT(b OF t)";
        Check.due("none of a FOLLOW'S steps", Check.run(text, 0, 9), "7 53 7 3 1 :");
        Check.due("all of them", Check.run(text, 0, 10), "7 55 10 3 1 :");
        Check.due("all", Check.run(text, 0, 13), "0 -1 13 3 1 : I2");
        Check.due("one less", Check.run(text, 0, 12), "7 66 12 3 1 :");
        Check.due("one step", Check.run("1", 0, 1), "7 0 1 0 1 :");
        Check.due("two steps", Check.run("1", 0, 2), "7 0 2 0 1 :");
        Check.due("a turn", Check.run("DO 1 OD", 0, 2), "7 0 2 0 1 :");
        Check.due("no end", Check.run("DO 1 OD", 0, 3000), "7 3 3000 0 3 :");
        String trim = "LOC[1:3]INT a;[]INT b=a[2:3];1";
        Check.due("none of a TRIM'S", Check.run(trim, 0, 9), "7 23 9 4 1 :");
        Check.due("all of a TRIM'S", Check.run(trim, 0, 12), "7 29 12 4 1 :");
    }

    private static void clauses() {
        Check.prints("PRINT(IF 1=2 THEN 1 ELSE 2 FI)", "I2");
        Check.prints("PRINT(CASE 0 IN 1,2 OUT 3 ESAC);PRINT(CASE 3 IN 1,2 OUT 3 ESAC);PRINT(CASE 1 IN 1,2 OUT 3 ESAC)",
                "I3 I3 I1");
        Check.prints("INT a=(INT b=2;b*b);PRINT(a);PRINT(BEGIN 1;2 END)", "I4 I2");
        Check.prints("PRINT(INT(LOC INT:=3))", "I3");
    }

    private static void loops() {
        Check.prints("FOR i FROM 3 BY -1 TO 1 DO PRINT(i)OD", "I3 I2 I1");
        Check.prints("FOR i FROM 2147483646 DO PRINT(i)OD", "I2147483646 I2147483647");
        Check.prints("FOR i TO 0 DO PRINT(i)OD;FOR i FROM 2 BY -1 TO 3 DO PRINT(i)OD", "");
        Check.prints("LOC INT n:=0;FROM 9 BY 0 TO 1 WHILE n<3 DO PRINT(n);n:=n+1 OD", "I0 I1 I2");
        Check.prints("FOR i BY 2 TO 5 DO PRINT(i)OD", "I1 I3 I5");
        Check.prints("FOR i WHILE i<3 DO INT k=i;PRINT(k)OD", "I1 I2");
    }

    private static void unions() {
        String union = "MODE U=UNION(INT,BOOL);MODE V=UNION(U,[]INT);";
        Check.prints(union + "V v=1;CASE v WHEN([]INT r):PRINT(9),(U u):CASE u WHEN(BOOL b):PRINT(b),(INT i):PRINT(i)ESAC ESAC",
                "I1");
        Check.prints(union + "LOC V v:=U(TRUE);PRINT(CASE v WHEN(INT i):1,(BOOL b):2 ESAC)", "I2");
        Check.prints(union + "V v=[]INT((1,2));PRINT(CASE v WHEN(INT i):1 OUT 3 ESAC)", "I3");
        Check.prints(union + "V v=TRUE;CASE v WHEN(INT i):PRINT(1)ESAC", "");
        Check.prints(union + "V v=3;CASE v WHEN(INT i):PRINT(i),(INT j):PRINT(99)ESAC", "I3");
    }

    private static void rowsAndStructs() {
        Check.prints("LOC[1:2]INT a;REF INT b=a[1];a:=(3,4,5);b:=9;PRINT(a[1]);PRINT(UPB a);PRINT(b)", "I3 I3 I9");
        Check.prints("LOC STRUCT(INT p,[]INT q)s:=(1,(2,3));LOC STRUCT(INT p,[]INT q)t:=s;(q OF s)[1]:=7;"
                + "PRINT((q OF t)[1]);PRINT((q OF s)[1]);t:=SKIP;p OF t:=5;PRINT(p OF t)", "I2 I7 I5");
        Check.prints("LOC[1:2][]INT a;a[1]:=(1,2,3);PRINT(UPB a[1]);PRINT(UPB a[2]);PRINT(a[1][3])", "I3 I0 I3");
        Check.prints("MODE L=STRUCT(INT v,REF L n);LOC L a:=(1,NIL);LOC L b:=(2,a);n OF a:=b;PRINT(v OF n OF n OF n OF a)",
                "I2");
        Check.prints("[]INT a=5;PRINT(a[1]);[][]INT b=(1,(2,3));PRINT(UPB b[2])", "I5 I2");
        Check.prints("LOC[0:2]INT a:=(7,8,9);PRINT(LWB a);[]INT b=a;PRINT(b[1])", "I1 I7");
        Check.prints("LOC[0:2]INT a;a[0]:=4;[]INT b=a;PRINT(LWB b);PRINT(b[0]);LOC[]INT c:=b;PRINT(LWB c)", "I0 I4 I0");
    }

    private static void routines() {
        Check.prints("PROC(INT)INT f=(INT n)INT:IF n=0 THEN 1 ELSE n*f(n-1)FI;PRINT(f(5))", "I120");
        Check.prints("PROC(INT)PROC INT f=(INT n)PROC INT:INT:3;PRINT(f(1))", "I3");
        Check.prints("LOC INT a:=1;PROC VOID f=VOID:a:=a*2;f;f;PRINT(a)", "I4");
        Check.prints("LOC INT a:=1;LOC PROC VOID f:=VOID:a:=a*2;f;PRINT(a)", "I2");
        Check.prints("OP +=(INT a,INT b)INT:a*b;PRINT(3+4);(OP +=(INT a,INT b)INT:a-b;PRINT(3+4))", "I12 I-1");
        Check.prints("PRIO P=7;OP P=(INT a,INT b)INT:a-b;PRINT(10-5 P 2 P 1)", "I8");
        Check.prints("PROC(PROC INT)INT f=(PROC INT g)INT:(INT x=9;g);PRINT((INT x=4;f(INT:x)))", "I4");
        Check.prints("PROC(INT,PROC INT)INT f=(INT n,PROC INT g)INT:IF n=0 THEN g ELSE f(n-1,INT:n+g)FI;PRINT(f(4,INT:0))",
                "I10");
    }

    /* The ORDER of k parts by a seed, as the document tells it. */
    private static String order(long seed, int k) {
        int[] parts = new int[k];
        for (int i = 0; i < k; i++) {
            parts[i] = i;
        }
        long s = seed;
        for (int i = k - 1; i >= 1 && seed != 0; i--) {
            s = s * 6364136223846793005L + 1442695040888963407L;
            int j = (int) ((s >>> 33) % (i + 1));
            int part = parts[i];
            parts[i] = parts[j];
            parts[j] = part;
        }
        StringBuilder all = new StringBuilder("0 -1 :");
        for (int part : parts) {
            all.append(" I").append(part + 1);
        }
        return all.toString();
    }

    private static void seeds() {
        String f = "PROC(INT)INT f=(INT n)INT:(PRINT(n);1);";
        String[] sides = {"f(1)+f(2)", "(f(1);HEAP INT):=f(2)", "(f(1);HEAP INT)IS(f(2);HEAP INT)",
            "(f(1);PROC(INT,INT,INT)INT(SKIP))(f(2),f(3),f(4))", "(f(1);[]INT(1))[f(2)]", "(f(1);[]INT(1))[f(2):f(3)]",
            "[]INT a=(f(1),f(2),f(3),f(4),f(5));1", "FROM f(1)BY f(2)TO f(3)DO 1 OD", "BY f(1)TO f(2)DO 1 OD",
            "LOC[f(1):f(2)]INT a;1", "HEAP[f(1):f(2)]INT"};
        int[] parts = {2, 2, 2, 4, 2, 3, 5, 3, 2, 2, 2};
        long[] given = {0, 1, 2, 3, 5, 77, -1, Long.MIN_VALUE, 123456789012345L};
        for (int i = 0; i < sides.length; i++) {
            for (long seed : given) {
                String told = Check.run(f + sides[i], seed, 3000);
                String want = order(seed, parts[i]).substring(4);
                Check.due(sides[i] + " by " + seed, told.substring(told.indexOf(':')), want.trim());
            }
        }
    }

    private static void wrongCalls() {
        AlgolHouse house = new AlgolHouse();
        Check.read(house, "PRINT(5);PRINT(TRUE)");
        Check.due("run", house.run(0, 0, 3000), 0);
        Check.due("told", house.told(), 2);
        Check.due("number", house.number(0) + " " + house.number(1), "5 1");
        Check.due("kind", house.kind(0) + " " + house.kind(1), "0 2");
        String index = "IndexOutOfBoundsException";
        String argument = "IllegalArgumentException";
        Check.due("number", Check.answer(() -> house.number(2)), index);
        Check.due("number", Check.answer(() -> house.number(-1)), index);
        Check.due("kind", Check.answer(() -> house.kind(2)), index);
        Check.due("kind", Check.answer(() -> house.kind(-1)), index);
        Check.due("ran", Check.answer(() -> house.ran(5)), argument);
        Check.due("ran", Check.answer(() -> house.ran(-1)), argument);
        Check.due("run", Check.answer(() -> house.run(1, 0, 0)), index);
        Check.due("run", Check.answer(() -> house.run(-1, 0, 9)), index);
        Check.due("run", Check.answer(() -> house.run(0, 0, 0)), argument);
        Check.due("run", Check.answer(() -> house.run(0, 0, 3001)), argument);
        Check.due("nothing has changed", Check.told(house), "0 -1 5 0 1 : I5 B1");
        Check.due("a failure", house.run(0, 0, 3), 7);
        Check.due("it is told", Check.told(house), "7 9 3 0 1 : I5");
    }
}
