/** Term 5: what a step is, LOOPS at their edges, what is PUT and FOLLOWED, what parts stand side by side, DRAWS. */
public final class StepsEdgeTest {
    private static final String TELL = "PROC(INT)INT t=(INT n)INT:(PRINT(n);n);";

    private StepsEdgeTest() {
    }

    public static void main(String[] args) {
        stepsOfNodes();
        stepsOfCoercions();
        stepsOfCopies();
        lastSteps();
        failuresAheadOfSteps();
        sizesBehindSteps();
        everyLimit();
        loops();
        clauses();
        comings();
        puts();
        unions();
        draws();
        drawsInTurn();
        Check.end();
    }

    private static void takes(String text, int steps) {
        String[] words = Check.run(text, 0, 3000).split(" ");
        Check.due("steps of " + text, words[0] + " " + (words.length > 2 ? words[2] : ""), "0 " + steps);
    }

    private static void stepsOfNodes() {
        takes("1", 3);
        takes("SKIP", 2);
        takes("1;1", 5);
        takes("(1)", 4);
        takes("MODE A=INT;PRIO P=1;1", 3);
        takes("OP A=(INT a)INT:a;1", 5);
        takes("INT a=1;1", 5);
        takes("LOC INT a;1", 4);
        takes("LOC INT a:=1;1", 5);
        takes("LOC[1:2]INT a;1", 6);
        takes("LOC INT a;a:=1", 6);
        takes("LOC INT a;a IS a", 6);
        takes("LOC INT a;a ISNT NIL", 6);
        takes("INT:1", 5);
        takes("(INT n)INT:1", 3);
        takes("REF INT a=NIL;1", 5);
        takes("1+2", 5);
        takes("-1", 4);
        takes("UPB[]INT(1)", 7);
        takes("LOC STRUCT(INT p)a;p OF a", 5);
        takes("LOC INT", 3);
        takes("HEAP[1:2]INT", 5);
        takes("LONG 1", 3);
        takes("TRUE", 3);
        takes("INT a=1;a", 5);
        takes("INT(1)", 5);
        takes("PROC(INT)INT f=(INT n)INT:n;f(1)", 8);
        takes("OP A=(INT n)INT:n;A 1", 7);
        takes("OP A=(INT n,INT m)INT:n;1 A 1", 8);
        takes("[]INT a=1;a[1]", 8);
        takes("[]INT a=1;a[1:1]", 9);
        takes("[]INT a=(1,2);1", 7);
        takes("[]INT a=();1", 5);
        takes("IF TRUE THEN 1 FI", 7);
        takes("IF FALSE THEN 1 FI", 4);
        takes("IF FALSE THEN 1 ELSE 2 FI", 7);
        takes("CASE 1 IN 1,2 ESAC", 6);
        takes("CASE 3 IN 1,2 ESAC", 4);
        takes("CASE 3 IN 1,2 OUT 3 ESAC", 7);
        takes("CASE UNION(INT,BOOL)(1)WHEN(INT i):i ESAC", 9);
        takes("CASE UNION(INT,BOOL)(1)WHEN(BOOL i):i ESAC", 7);
        takes("CASE UNION(INT,BOOL)(1)WHEN(BOOL i):i OUT 2 ESAC", 10);
        takes("TO 0 DO 1 OD", 3);
        takes("TO 1 DO 1 OD", 7);
        takes("TO 2 DO SKIP OD", 9);
        takes("WHILE FALSE DO 1 OD", 5);
        takes("FOR i FROM 1 BY 1 TO 1 WHILE TRUE DO SKIP OD", 10);
        takes("PRINT(1)", 3);
    }

    private static void stepsOfCoercions() {
        takes("PROC INT f=INT:1;f", 7);
        takes("PROC VOID f=VOID:SKIP;f", 6);
        takes("PROC PROC INT f=PROC INT:INT:1;f", 9);
        takes("LOC INT a:=1;INT b=a;1", 8);
        takes("LOC INT a:=1;LONG b=a;1", 9);
        takes("UNION(INT,BOOL)a=1;1", 6);
        takes("LONG a=1;1", 6);
        takes("[]INT a=1;1", 6);
        takes("[][][]LONG a=1;1", 9);
        takes("UNION(INT,BOOL)a=1;UNION(INT,BOOL,LONG)b=a;1", 9);
        takes("LOC REF INT r:=LOC INT:=1;INT b=r;1", 11);
    }

    /* FOLLOW takes as many as PLACES are copied; TRIM of a NAME those of its elements, of a value none. */
    private static void stepsOfCopies() {
        takes("LOC STRUCT(INT p,INT q)a;STRUCT(INT p,INT q)b=a;1", 9);
        takes("LOC STRUCT(INT p,STRUCT(INT r,INT s)q)a;STRUCT(INT p,STRUCT(INT r,INT s)q)b=a;1", 11);
        takes("LOC[1:3]INT a;[]INT b=a;1", 12);
        takes("LOC[]INT a;[]INT b=a;1", 7);
        takes("LOC[]INT a:=SKIP;[]INT b=a;1", 8);
        takes("LOC[1:3]STRUCT(INT p,INT q)a;[]STRUCT(INT p,INT q)b=a;1", 18);
        takes("LOC STRUCT(INT p,[]INT q)a:=(1,(2,3));STRUCT(INT p,[]INT q)b=a;1", 16);
        takes("LOC UNION([]INT,INT)a:=[]INT((1,2));UNION([]INT,INT)b=a;1", 13);
        takes("LOC REF[]INT a:=LOC[1:3]INT;REF[]INT b=a;1", 10);
        takes("LOC[1:3]INT a;a[1:3];1", 14);
        takes("LOC[1:3]INT a;a[2:2];1", 12);
        takes("LOC[1:3]INT a;a[2:1];1", 11);
        takes("LOC[1:3]STRUCT(INT p,INT q)a;a[1:2];1", 17);
        takes("LOC[1:2][]INT a:=((1,2,3),());a[1:1];1", 21);
        takes("[]INT a=(1,2,3);a[1:3];1", 13);
    }

    /* With so many steps: failure, place, steps, places, depth. */
    private static void within(String text, int steps, String want) {
        String all = Check.run(text, 0, steps);
        Check.due(steps + " steps of " + text, all.substring(0, Math.max(all.indexOf(" :"), 0)), want);
    }

    private static void lastSteps() {
        within("1", 1, "7 0 1 0 1");
        within("1", 2, "7 0 2 0 1");
        within("1", 3, "0 -1 3 0 1");
        within("PROC INT f=INT:1;f", 4, "7 17 4 0 1");
        within("PROC INT f=INT:1;f", 5, "7 15 5 0 2");
        within("PROC INT f=INT:1;f", 6, "7 17 6 0 2");
        within("TO 2 DO SKIP OD", 3, "7 0 3 0 1");
        within("TO 2 DO SKIP OD", 4, "7 8 4 0 2");
        within("TO 2 DO SKIP OD", 6, "7 0 6 0 3");
        within("[][]LONG a=1;1", 3, "7 11 3 0 1");
        within("[][]LONG a=1;1", 4, "7 11 4 0 1");
        within("[][]LONG a=1;1", 5, "7 11 5 0 1");
        within("[][]LONG a=1;1", 6, "7 13 6 0 1");
        String follow = "LOC STRUCT(INT p,INT q)a;STRUCT(INT p,INT q)b=a;1";
        within(follow, 3, "7 46 3 3 1");
        within(follow, 4, "7 46 4 3 1");
        within(follow, 5, "7 46 4 3 1");
        within(follow, 6, "7 46 4 3 1");
        within(follow, 7, "7 48 7 3 1");
        String trim = "LOC[1:3]INT a;a[1:3];1";
        within(trim, 8, "7 15 8 4 1");
        within(trim, 9, "7 15 8 4 1");
        within(trim, 10, "7 15 8 4 1");
        within(trim, 11, "7 15 11 4 1");
        within(trim, 12, "7 21 12 4 1");
        within("LOC[1:3]INT a;a[2:1];1", 8, "7 15 8 4 1");
        within("DO SKIP OD", 3000, "7 3 3000 0 3");
    }

    /* 1, 2 and 6 come ahead of a FOLLOW'S steps, 1, 2, 3 and 6 ahead of a TRIM'S; other STEPS are taken first. */
    private static void failuresAheadOfSteps() {
        within("REF INT a=NIL;INT b=a;1", 4, "7 20 4 0 1");
        within("REF INT a=NIL;INT b=a;1", 5, "2 20 5 0 1");
        within("REF INT a=SKIP;INT b=a;1", 5, "1 21 5 0 1");
        within("LOC[1:3]INT a;a[0:3];1", 8, "3 15 8 4 1");
        within("REF[]INT a=NIL;a[1:1];1", 7, "2 16 7 0 1");
        within("LOC[1:3]INT a:=SKIP;a[1:1];1", 9, "1 21 9 4 1");
        within("PROC INT f=SKIP;INT a=f;1", 5, "7 22 5 0 1");
        within("PROC INT f=SKIP;INT a=f;1", 6, "1 22 6 0 1");
        within("INT u=SKIP;PRINT(u)", 5, "1 11 5 0 1");
        within("INT u=SKIP;PRINT(u)", 4, "7 17 4 0 1");
        within("PROC INT f=INT:f;f", 82, "7 15 82 0 40");
        within("PROC INT f=INT:f;f", 83, "6 15 83 0 40");
        String sizes = "[]INT a=(1,2,3,4,5,6,7,8);[][]INT b=(a,a,a,a,a,a,a,a);[][][]INT c=(b,b,b,b,[]INT((1,2,3)));"
                + "MODE U=UNION([][][]INT,INT);";
        String struct = sizes + "LOC STRUCT(U p,INT q)s;p OF s:=c;STRUCT(U p,INT q)t=|s;1";
        String row = sizes + "LOC[1:2]U s;s[1]:=c;s[2]:=1;[]U t=s|[1:2];1";
        tooLarge(struct, 3);
        tooLarge(row, 3);
    }

    /* Where a STEP other than FOLLOW fails by its SIZE it has been taken; without a step for it there is 7. */
    private static void sizesBehindSteps() {
        String sizes = "[]INT a=(1,2,3,4,5,6,7,8);[][]INT b=(a,a,a,a,a,a,a,a);[][][]INT c=(b,b,b,b,[]INT((1,2,3)));";
        lastOfThese(sizes + "[][][][][]INT d=c;1", sizes + "[][][][][][]INT d=|c;1", 2, 1);
        String three = sizes + "[][][][][]INT d=c;";
        lastOfThese(three + "1", three + "UNION(INT,[][][][][]INT)e=|d;1", 2, 3);
        lastOfThese(three + "1", three + "[][][][][][]INT e=|d;1", 2, 3);
    }

    /* The first text ends well; the second one fails at its mark, so many steps less and so many more behind. */
    private static void lastOfThese(String text, String marked, int less, int more) {
        String failing = Check.plain(marked);
        String place = " " + Check.mark(marked) + " ";
        String[] words = Check.run(text, 0, 3000).split(" ");
        int steps = Integer.parseInt(words[2]) - less + more;
        Check.due("failure of " + text, words[0], "0");
        within(failing, 3000, "6" + place + steps + " 0 2");
        within(failing, steps, "6" + place + steps + " 0 2");
        within(failing, steps - 1, "7" + place + (steps - 1) + " 0 2");
    }

    /* A SIZE above 300 is told where there is no step left for the copy, and not before. */
    private static void tooLarge(String marked, int places) {
        String text = Check.plain(marked);
        int place = Check.mark(marked);
        String[] words = Check.run(text, 0, 3000).split(" ");
        Check.due("a SIZE above 300 of " + text, words[0] + " " + words[1], "6 " + place);
        int steps = Integer.parseInt(words[2]);
        within(text, steps, "6 " + place + " " + steps + " " + places + " 2");
        String less = Check.run(text, 0, steps - 1);
        Check.due("one step less of " + text, less.startsWith("7 ") && less.contains(" " + (steps - 1) + " " + places + " 2 :"),
                true);
    }

    /* With just as many steps as it takes it ends; with less it fails by 7 behind no more than those. */
    private static void everyLimit() {
        String[] texts = {"LOC INT a:=1;PROC INT f=INT:(a:=a+1;a);PRINT(f+a*f);FOR i TO 3 WHILE i<3 DO PRINT(i)OD",
            "MODE S=STRUCT(INT p,INT q);LOC[1:4]S a;a[2]:=(1,2);[]S b=a[2:3];LOC[]S c:=a;PRINT(p OF a[2]);PRINT(UPB b)",
            "UNION(INT,[]LONG)u=[]LONG(1);CASE u WHEN(INT i):PRINT(i),([]LONG r):PRINT(r[1])ESAC;PRINT(IF TRUE THEN 1 FI)"};
        for (String text : texts) {
            AlgolHouse house = new AlgolHouse();
            Check.due("a program: " + text, Check.read(house, text), 0);
            Check.due("run", house.run(0, 0, 3000), 0);
            int all = house.ran(2);
            String told = Check.told(house);
            for (int steps = 1; steps < all; steps++) {
                if (steps % 100 == 0) {
                    house = new AlgolHouse();
                    Check.read(house, text);
                }
                int failure = house.run(0, 0, steps);
                int taken = house.ran(2);
                Check.due(steps + " of " + text, failure + " " + (taken <= steps && taken > steps - 13), "7 true");
            }
            Check.due("just enough", house.run(0, 0, all) + " " + Check.told(house), "0 " + told);
        }
    }

    private static void loops() {
        Check.prints("FOR i TO 3 DO PRINT(i)OD", "I1 I2 I3");
        Check.prints("FOR i FROM 2 TO 3 DO PRINT(i)OD;FOR i BY 2 TO 4 DO PRINT(i)OD;FOR i BY 2 TO 5 DO PRINT(i)OD",
                "I2 I3 I1 I3 I1 I3 I5");
        Check.prints("FOR i TO 1 DO PRINT(i)OD;FOR i TO 0 DO PRINT(i)OD;FOR i FROM 5 TO 5 DO PRINT(i)OD;"
                + "FOR i FROM 6 TO 5 DO PRINT(i)OD", "I1 I5");
        Check.prints("FOR i FROM 3 BY -1 TO 1 DO PRINT(i)OD;FOR i FROM 3 BY -1 TO 3 DO PRINT(i)OD;"
                + "FOR i FROM 3 BY -1 TO 4 DO PRINT(i)OD", "I3 I2 I1 I3");
        Check.prints("FOR i FROM 2147483646 DO PRINT(i)OD", "I2147483646 I2147483647");
        Check.prints("FOR i FROM 2147483647 TO 2147483647 DO PRINT(i)OD", "I2147483647");
        Check.prints("FOR i BY 2147483647 DO PRINT(i)OD;FOR i FROM 0 BY 2147483647 DO PRINT(i)OD", "I1 I0 I2147483647");
        Check.prints("FOR i FROM -2147483647 BY -1 DO PRINT(i)OD", "I-2147483647 I-2147483648");
        Check.prints("FOR i FROM -2147483647-1 BY -2147483647-1 TO -2147483647-1 DO PRINT(i)OD", "I-2147483648");
        Check.prints("FOR i FROM 5 BY 0 TO 1 WHILE FALSE DO 1 OD;LOC INT n:=0;FOR i FROM 5 BY 0 TO 1 WHILE n<2 DO n:=n+1;"
                + "PRINT(i)OD", "I5 I5");
        Check.prints("LOC INT n:=0;FOR i FROM 1 BY 0 TO 9 WHILE n<2 DO n:=n+1;PRINT(i)OD", "I1 I1");
        Check.fails("FOR i BY 0 TO 0 DO SKIP OD", 7, 19);
        Check.prints("LOC INT n:=3;TO n DO n:=1;PRINT(n)OD", "I1 I1 I1");
        Check.prints("FOR i WHILE i<3 DO PRINT(i)OD;FOR i WHILE PRINT(i);i<2 DO PRINT(0)OD", "I1 I2 I1 I0 I2");
        Check.prints("FOR i TO 2 DO FOR k TO i DO PRINT(10*i+k)OD OD", "I11 I21 I22");
    }

    private static void clauses() {
        Check.prints("FOR i FROM 0 TO 4 DO PRINT(CASE i IN 11,12,13 OUT 19 ESAC)OD", "I19 I11 I12 I13 I19");
        Check.prints("PRINT(CASE -1 IN 1,2 OUT 3 ESAC);PRINT(CASE 2147483647 IN 1,2 OUT 3 ESAC);"
                + "PRINT(CASE -2147483647-1 IN 1,2 OUT 3 ESAC)", "I3 I3 I3");
        Check.prints("PRINT(CASE 8 IN 1,2,3,4,5,6,7,8 ESAC);CASE 9 IN 1,2,3,4,5,6,7,PRINT(8)ESAC", "I8");
        Check.prints("IF TRUE THEN PRINT(1)FI;IF FALSE THEN PRINT(2)FI;IF FALSE THEN PRINT(3)ELSE PRINT(4)FI", "I1 I4");
    }

    /* What comes through several STEPS is what it was. */
    private static void comings() {
        Check.prints("LOC INT a:=7;LONG b=a;PRINT(b);[]LONG c=a;PRINT(c[1]);[][]INT d=a;PRINT(d[1][1]);PRINT(UPB d);"
                + "PRINT(UPB d[1])", "L7 L7 I7 I1 I1");
        Check.prints("PROC INT f=INT:3;LONG b=f;PRINT(b);[]LONG c=f;PRINT(c[1]);PRINT(f+f)", "L3 L3 I6");
        Check.prints("LOC INT a:=7;UNION(INT,BOOL)u=a;CASE u WHEN(INT i):PRINT(i)ESAC;[]UNION(INT,BOOL)v=a;"
                + "CASE v[1]WHEN(INT i):PRINT(i)ESAC", "I7 I7");
        Check.prints("LOC REF PROC INT f:=LOC PROC INT:=INT:4;PRINT(f);LONG b=f;PRINT(b);UNION(LONG,INT)u=f;"
                + "CASE u WHEN(INT i):PRINT(i)ESAC", "I4 L4 I4");
        Check.prints("LOC[]INT a:=(1,2);[][]INT b=a;PRINT(UPB b);PRINT(b[1][2]);LOC REF[]INT c:=a;PRINT(c[2]);PRINT(UPB c)",
                "I1 I2 I2 I2");
        Check.prints("PROC REF INT f=REF INT:HEAP INT:=5;PRINT(f);f:=6;INT a=f;PRINT(a)", "I5 I5");
        Check.prints("INT k=1;OP A=(INT n)INT:n+k;PROC INT f=INT:k+A k;(INT k=9;PRINT(A k);PRINT(f))", "I10 I3");
        Check.prints("PROC(INT)INT f=(INT n)INT:(LOC INT a:=n;IF n>0 THEN f(n-1)FI;a);PRINT(f(3))", "I3");
        Check.prints("PROC(INT,PROC INT)INT f=(INT n,PROC INT g)INT:IF n=0 THEN g ELSE f(n-1,IF n=2 THEN INT:n*10 ELSE g FI)FI;"
                + "PRINT(f(4,INT:1))", "I20");
        Check.prints("LOC STRUCT(INT p,INT q)s:=(1,2);LOC REF STRUCT(INT p,INT q)r:=s;PRINT(q OF r);q OF r:=3;PRINT(q OF s)",
                "I2 I3");
    }

    private static void puts() {
        Check.prints("LOC[1:3]INT a:=(1,2,3);REF INT b=a[2];a:=(4,5,6);b:=9;PRINT(a[2]);PRINT(b)", "I5 I9");
        Check.prints("LOC STRUCT(INT p,INT q)a:=(1,2);REF INT b=q OF a;a:=(3,4);PRINT(b);b:=5;PRINT(q OF a)", "I4 I5");
        Check.prints("LOC[3:4]INT a;[]INT b=a;LOC[]INT c:=b;PRINT(LWB c);PRINT(UPB c);c:=(1,2,3);PRINT(LWB c);PRINT(UPB c)",
                "I3 I4 I1 I3");
        Check.prints("LOC[3:4]INT a;a[3]:=1;a[4]:=2;LOC[]INT b:=a;a[3]:=7;PRINT(b[3]);LOC[]INT c:=a[4:4];PRINT(LWB c);"
                + "PRINT(c[1])", "I1 I1 I2");
        Check.prints("LOC[1:2]INT a:=(1,2);a:=a;PRINT(a[2]);a:=a[2:2];PRINT(UPB a);PRINT(a[1])", "I2 I1 I2");
        Check.prints("LOC STRUCT(INT p,STRUCT(INT r,INT s)q)a;q OF a:=(1,2);p OF a:=3;"
                + "LOC STRUCT(INT p,STRUCT(INT r,INT s)q)b:=a;s OF q OF a:=9;"
                + "PRINT(s OF q OF b);PRINT(s OF q OF a);PRINT(p OF b)", "I2 I9 I3");
        Check.prints("LOC INT a:=1;LOC INT b:=a;a:=2;PRINT(b);PRINT(a);REF INT c=a:=3;PRINT(c IS a);PRINT(a)", "I1 I2 B1 I3");
        Check.prints("LOC INT a;LOC INT b;a:=b:=4;PRINT(a);PRINT(b)", "I4 I4");
        Check.prints("[]INT a=5;PRINT(LWB a);PRINT(UPB a);[]INT b=(5,6);PRINT(LWB b);PRINT(UPB b);PRINT(b[1]);PRINT(b[2])",
                "I1 I1 I1 I2 I5 I6");
        Check.prints("LOC INT a:=1;PROC VOID f=VOID:a:=a+1;f;f;PRINT(a)", "I3");
        Check.prints("LOC[1:2][]INT a:=((1,2),3);PRINT(UPB a[1]);PRINT(UPB a[2]);a[2]:=(4,5,6);PRINT(a[2][3])", "I2 I1 I6");
        Check.prints("FOR i TO 2 DO LOC INT a;IF i=1 THEN a:=5;PRINT(a)ELSE LOC INT b:=a;PRINT(1)FI OD", "I5 I1");
        Check.prints("HEAP INT a:=1;REF INT b=HEAP INT:=2;LOC REF INT c:=a;c:=b;PRINT(c);REF INT(c):=7;PRINT(b)", "I2 I7");
    }

    private static void unions() {
        String modes = "MODE U=UNION(INT,BOOL);MODE V=UNION(INT,BOOL,LONG,[]INT);";
        Check.prints(modes + "V v=U(TRUE);PRINT(CASE v WHEN(LONG l):1,(U u):2,(BOOL b):3 ESAC)", "I2");
        Check.prints(modes + "V v=U(TRUE);PRINT(CASE v WHEN(LONG l):1,(BOOL b):3,(U u):2 ESAC)", "I3");
        Check.prints(modes + "V v=LONG 4;PRINT(CASE v WHEN(U u):2 OUT 5 ESAC);V w=[]INT(1);"
                + "PRINT(CASE w WHEN(U u):2,([]INT r):UPB r ESAC)", "I5 I1");
        Check.prints(modes + "U u=3;V v=u;CASE v WHEN(U w):CASE w WHEN(INT i):PRINT(i)ESAC ESAC", "I3");
        Check.prints(modes + "U s=1;U t=2;V v=U(TRUE);CASE v WHEN(U w):CASE w WHEN(INT i):PRINT(i),(BOOL b):PRINT(b)ESAC ESAC",
                "B1");
        Check.prints(modes + "U t=TRUE;V v=77;CASE v WHEN(U w):(V x=w;CASE x WHEN(BOOL b):PRINT(b),(INT i):PRINT(i)ESAC)ESAC",
                "I77");
        Check.prints(modes + "LOC V v:=1;v:=TRUE;v:=U(8);CASE v WHEN(INT i):PRINT(i),(BOOL b):PRINT(b)ESAC", "I8");
        Check.prints(modes + "V v=1;CASE v WHEN(V w):CASE w WHEN(INT i):PRINT(i)ESAC ESAC", "I1");
        Check.prints(modes + "V v=LONG 1;U u=2;"
                + "CASE u WHEN(BOOL b):PRINT(0),(INT i):CASE v WHEN(INT k):PRINT(1)OUT PRINT(5)ESAC ESAC", "I5");
        Check.prints(modes + "V v=LONG 1;U u=2;"
                + "CASE u WHEN(BOOL b):PRINT(0),(INT i):CASE v WHEN(INT k):PRINT(1),(LONG l):PRINT(l)ESAC OUT PRINT(6)ESAC",
                "L1");
        Check.prints("UNION(INT,STRUCT(BOOL b))u=2;CASE u WHEN(REF INT r):PRINT(0),(LONG l):PRINT(0),(INT i):PRINT(i)ESAC", "I2");
    }

    /* What is told in which ORDER, of k parts, by the STREAM of a seed. */
    private static String order(long seed, int k) {
        long[] stream = {seed};
        StringBuilder all = new StringBuilder();
        for (int part : order(stream, k, seed == 0)) {
            all.append(" I").append(part + 1);
        }
        return all.toString();
    }

    private static int[] order(long[] stream, int k, boolean straight) {
        int[] parts = new int[k];
        for (int i = 0; i < k; i++) {
            parts[i] = i;
        }
        for (int i = k - 1; i >= 1 && !straight; i--) {
            stream[0] = stream[0] * 6364136223846793005L + 1442695040888963407L;
            int j = (int) ((stream[0] >>> 33) % (i + 1));
            int part = parts[i];
            parts[i] = parts[j];
            parts[j] = part;
        }
        return parts;
    }

    private static void draws() {
        String[] sides = {"t(1)+t(2)", "(t(1);HEAP INT):=t(2)", "(t(1);HEAP INT)IS(t(2);HEAP INT)",
            "(t(1);HEAP INT)ISNT(t(2);HEAP INT)", "(t(1);PROC(INT)INT((INT n)INT:1))(t(2))",
            "(t(1);PROC(INT,INT,INT,INT,INT,INT,INT,INT)INT(SKIP))(t(2),t(3),t(4),t(5),t(6),t(7),t(8),t(9))",
            "(t(1);[]INT(1))[t(2)]", "(t(1);[]INT(1))[t(2):t(3)]", "[]INT a=(t(1),t(2));1",
            "[]INT a=(t(1),t(2),t(3),t(4),t(5),t(6),t(7),t(8));1", "STRUCT(INT p,INT q)a=(t(1),t(2));1",
            "FROM t(1)BY t(2)TO t(3)WHILE FALSE DO 1 OD", "FROM t(1)TO t(2)WHILE FALSE DO 1 OD",
            "FROM t(1)BY t(2)WHILE FALSE DO 1 OD", "TO t(1)WHILE FALSE DO 1 OD", "LOC[t(1):t(2)]INT a;1", "HEAP[t(1):t(2)]INT",
            "LOC[t(1):t(2)]INT a:=(t(3);SKIP);1"};
        int[] parts = {2, 2, 2, 2, 2, 9, 2, 3, 2, 8, 2, 3, 2, 2, 1, 2, 2, 2};
        long[] seeds = {0, 1, 2, 3, 4, 5, 6, 7, -1, -2, 1L << 32, 1L << 63, Long.MAX_VALUE, 987654321987L};
        for (int i = 0; i < sides.length; i++) {
            for (long seed : seeds) {
                String want = order(seed, parts[i]) + (sides[i].contains("(t(3);SKIP)") ? " I3" : "");
                String told = Check.run(TELL + sides[i], seed, 3000);
                Check.due(sides[i] + " by " + seed, told.substring(told.indexOf(':') + 1), want);
            }
        }
    }

    /* A node's DRAWS are ahead of those of its parts; of parts that are worked one behind the other those of the first. */
    private static void drawsInTurn() {
        for (long seed = 1; seed < 40; seed++) {
            long[] stream = {seed};
            int[] outer = order(stream, 2, false);
            StringBuilder want = new StringBuilder();
            for (int part : outer) {
                for (int inner : order(stream, 3, false)) {
                    want.append(" I").append(10 * (part + 1) + inner + 1);
                }
            }
            String p = "(PRINT(11);1),(PRINT(12);1),(PRINT(13);1)";
            String q = "(PRINT(21);1),(PRINT(22);1),(PRINT(23);1)";
            String told = Check.run("[][]INT a=((" + p + "),(" + q + "));1", seed, 3000);
            Check.due("in turn by " + seed, told.substring(told.indexOf(':') + 1), want.toString());
        }
    }
}
