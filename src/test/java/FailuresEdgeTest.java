/** Term 5: each FAILURE in each place that its sentence names, just within and just beyond. */
public final class FailuresEdgeTest {
    /* SIZE 9, 73, 7 and 8. */
    private static final String SIZES = "[]INT a=(1,2,3,4,5,6,7,8);[][]INT b=(a,a,a,a,a,a,a,a);[][]INT x=[]INT((1,2,3,4,5));"
            + "[][]INT y=[]INT((1,2,3,4,5,6));";
    /* SIZE 300 of a DISPLAY, and one less. */
    private static final String FULL = "(b,b,b,b,x)";
    private static final String LESS = "(b,b,b,b,[]INT((1,2,3,4)))";

    private FailuresEdgeTest() {
    }

    public static void main(String[] args) {
        undefined();
        undefinedButRight();
        beforeItsDeclaration();
        nil();
        undefinedAheadOfNil();
        bounds();
        agesOfNames();
        agesOfRoutines();
        agesThatLeave();
        numbers();
        longNumbers();
        comparisons();
        places();
        sizes();
        sizesOfSteps();
        elements();
        depths();
        tooDeep();
        printed();
        Check.end();
    }

    private static void undefined() {
        String[] operands = {"INT u=SKIP;u|+1", "INT u=SKIP;1|+u", "INT u=SKIP;u|-u", "INT u=SKIP;u|*0", "INT u=SKIP;1|/u",
            "INT u=SKIP;u|%1", "INT u=SKIP;u|=1", "INT u=SKIP;1|/=u", "INT u=SKIP;u|<1", "INT u=SKIP;1|<=u", "INT u=SKIP;u|>1",
            "INT u=SKIP;1|>=u", "INT u=SKIP;u|/0", "LONG u=SKIP;u|+LONG 1", "LONG u=SKIP;LONG 1|<u", "BOOL u=SKIP;u|=TRUE",
            "BOOL u=SKIP;FALSE|&u", "BOOL u=SKIP;TRUE|!u", "BOOL u=SKIP;u|&FALSE", "INT u=SKIP;|-u", "INT u=SKIP;|+u",
            "LONG u=SKIP;|-u", "BOOL u=SKIP;|~u", "INT u=SKIP;|LENG u", "LONG u=SKIP;|SHORTEN u"};
        for (String marked : operands) {
            Check.failsAt(1, marked);
        }
        String[] used = {"INT u=SKIP;[]INT r=1;r|[u]", "INT u=SKIP;LOC[1:2]INT r;r|[u]", "INT u=SKIP;[]INT r=1;r|[u:1]",
            "INT u=SKIP;[]INT r=1;r|[1:u]", "INT u=SKIP;LOC[1:2]INT r;r|[u:1]", "INT u=SKIP;LOC[1:2]INT r;r|[1:u]",
            "INT u=SKIP;|LOC[u:1]INT;1", "INT u=SKIP;|LOC[1:u]INT;1", "INT u=SKIP;|HEAP[u:1]INT v;1",
            "INT u=SKIP;|LOC[1:u]INT v:=SKIP;1", "INT u=SKIP;|FROM u DO 1 OD", "INT u=SKIP;|BY u TO 0 DO 1 OD",
            "INT u=SKIP;|TO u DO 1 OD", "INT u=SKIP;|FROM 1 BY 1 TO u DO 1 OD", "BOOL u=SKIP;|IF u THEN 1 FI",
            "BOOL u=SKIP;|WHILE u DO 1 OD", "INT u=SKIP;|CASE u IN 1,2 ESAC", "INT u=SKIP;|CASE u IN 1,2 OUT 3 ESAC",
            "UNION(INT,BOOL)u=SKIP;|CASE u WHEN(INT i):1 ESAC", "UNION(INT,BOOL)u=SKIP;|CASE u WHEN(INT i):1 OUT 2 ESAC",
            "INT u=SKIP;|PRINT(u)", "LONG u=SKIP;|PRINT(u)", "BOOL u=SKIP;|PRINT(u)", "PROC(INT)INT u=SKIP;u|(1)",
            "PROC INT u=SKIP;INT v=|u;1", "PROC VOID u=SKIP;|u;1", "REF INT u=SKIP;INT v=|u;1", "REF INT u=SKIP;PRINT(|u)",
            "REF REF INT u=SKIP;REF INT v=|u;1", "STRUCT(INT p)u=SKIP;|p OF u", "REF STRUCT(INT p)u=SKIP;|p OF u",
            "[]INT u=SKIP;u|[1]", "REF[]INT u=SKIP;u|[1]", "[]INT u=SKIP;u|[1:1]", "REF[]INT u=SKIP;u|[1:1]",
            "[]INT u=SKIP;u|[2:1]", "[]INT u=SKIP;|LWB u", "[]INT u=SKIP;|UPB u", "REF[]INT u=SKIP;|LWB u",
            "REF[]INT u=SKIP;|UPB u", "REF INT u=SKIP;u|:=1", "REF INT u=SKIP;REF INT v=LOC INT;u |IS v",
            "REF INT u=SKIP;REF INT v=LOC INT;v |ISNT u", "REF INT u=SKIP;u |IS u", "REF INT u=SKIP;NIL |IS u",
            "LOC[1:2]INT u:=SKIP;u|[1]", "LOC[1:2]INT u:=SKIP;u|[1:1]", "LOC[1:2]INT u:=SKIP;|UPB u",
            "LOC[1:2]INT u:=SKIP;|LWB u", "LOC STRUCT([]INT p)u:=SKIP;(p OF u)|[1]", "LOC REF INT u;INT v=|u;1",
            "LOC REF STRUCT(INT p)u;|p OF u"};
        for (String marked : used) {
            Check.failsAt(1, marked);
        }
        parts();
    }

    /* A part that is undefined is so when it is used. */
    private static void parts() {
        Check.failsAt(1, "STRUCT(INT p,INT q)u=(1,SKIP);PRINT(p OF u);|PRINT(q OF u)");
        Check.failsAt(1, "[]INT u=(1,SKIP);PRINT(u[1]);|PRINT(u[2])");
        Check.failsAt(1, "LOC STRUCT(INT p,INT q)u:=(1,SKIP);PRINT(p OF u);|PRINT(q OF u)");
        Check.failsAt(1, "LOC[1:2]INT u;u[1]:=1;PRINT(u[1]);|PRINT(u[2])");
        Check.failsAt(1, "LOC STRUCT(INT p,INT q)u:=(1,2);u:=SKIP;|PRINT(p OF u)");
        Check.failsAt(1, "LOC STRUCT(STRUCT(INT r)p,INT q)u:=SKIP;|PRINT(r OF p OF u)");
        Check.failsAt(1, "CASE UNION(INT,BOOL)(INT(SKIP))WHEN(INT i):|PRINT(i)ESAC");
        Check.failsAt(1, "INT u=IF FALSE THEN 1 FI;|PRINT(u)");
        Check.failsAt(1, "INT u=CASE 9 IN 1,2 ESAC;|PRINT(u)");
        Check.failsAt(1, "INT u=CASE UNION(INT,BOOL)(TRUE)WHEN(INT i):i ESAC;|PRINT(u)");
        Check.failsAt(1, "LONG u=INT(SKIP);|PRINT(u)");
        Check.failsAt(1, "LOC[]INT u:=SKIP;[]INT v=u;|UPB v");
        Check.failsAt(1, "LOC[]INT u:=SKIP;[]INT v=u;v|[1:0]");
        Check.failsAt(1, "LOC[]INT u:=SKIP;LOC[]INT w:=u;|LWB w");
        Check.failsAt(1, "LOC[]INT u:=(1,2);u:=SKIP;LOC[]INT w:=(1,2);w:=u;w|[1]");
        Check.failsAt(1, "LOC STRUCT([]INT p)u:=SKIP;STRUCT([]INT p)v=u;|UPB p OF v");
        Check.failsAt(1, "LOC[1:2][]INT u;u[2]:=SKIP;[][]INT v=u;PRINT(UPB v[1]);|UPB v[2]");
        Check.failsAt(1, "[]INT u=INT(SKIP);PRINT(UPB u);|PRINT(u[1])");
    }

    private static void undefinedButRight() {
        Check.prints("INT u=SKIP;INT v=u;LOC INT w:=u;w:=v;u;PROC(INT)INT f=(INT n)INT:(n;1);PRINT(f(u))", "I1");
        Check.prints("OP +=(INT a,INT b)INT:3;INT u=SKIP;PRINT(u+u)", "I3");
        Check.prints("LOC INT u;INT v=u;LOC STRUCT(INT p,INT q)s;STRUCT(INT p,INT q)t=s;LOC STRUCT(INT p,INT q)r:=t;r:=s;"
                + "PRINT(1)", "I1");
        Check.prints("INT u=SKIP;[]INT r=(u,u);PRINT(UPB r);[]INT q=u;PRINT(UPB q);[]INT p=r[1:1];PRINT(UPB p)", "I2 I1 I1");
        Check.prints("UNION(INT,BOOL)u=INT(SKIP);PRINT(CASE u WHEN(BOOL b):1,(INT i):2 ESAC)", "I2");
        Check.prints("UNION(INT,LONG,BOOL)u=1;PRINT(CASE u WHEN(INT i):i ESAC)", "I1");
        Check.prints("LOC[]INT u:=SKIP;u:=(1,2);PRINT(UPB u);LOC STRUCT(INT p)s:=SKIP;p OF s:=4;PRINT(p OF s)", "I2 I4");
        Check.prints("LOC[1:2]INT u:=SKIP;[]INT v=u;LOC[]INT w:=v;PRINT(1)", "I1");
        Check.prints("LOC REF INT u;REF REF INT v=u;PRINT(v IS u);u:=NIL;PRINT(REF INT(u)IS NIL)",
                "B1 B1");
    }

    private static void beforeItsDeclaration() {
        Check.failsAt(1, "|a;INT a=1;1");
        Check.failsAt(1, "|a;LOC INT a;1");
        Check.failsAt(1, "INT a=|a;1");
        Check.failsAt(1, "LOC INT a:=|a;1");
        Check.failsAt(1, "LOC INT a:=(|a:=1;1);1");
        Check.failsAt(1, "LOC[1:|n]INT a;INT n=1;1");
        Check.failsAt(1, "PROC INT f=INT:|a;f;INT a=1;1");
        Check.prints("PROC INT f=INT:a;INT a=1;PRINT(f)", "I1");
        Check.failsAt(1, "FOR i TO 2 DO IF i=2 THEN |a FI;INT a=i;a OD");
        Check.failsAt(1, "OP A=(INT n)INT:|b;A 1;INT b=1;1");
        Check.prints("PRINT(A 1);OP A=(INT n)INT:n+1;PRINT(A 2)", "I2 I3");
        Check.failsAt(1, "PROC VOID f=VOID:(IF FALSE THEN 1 FI;|g);f;PROC VOID g=VOID:SKIP;1");
    }

    private static void nil() {
        String[] used = {"REF INT n=NIL;INT v=|n;1", "REF INT n=NIL;PRINT(|n)", "REF INT n=NIL;|n+1",
            "REF REF INT n=NIL;INT v=|n;1", "LOC REF INT n:=NIL;INT v=|n;1", "REF STRUCT(INT p)n=NIL;|p OF n",
            "REF[]INT n=NIL;n|[1]", "REF[]INT n=NIL;n|[1:1]", "REF[]INT n=NIL;n|[2:1]", "REF[]INT n=NIL;|LWB n",
            "REF[]INT n=NIL;|UPB n", "REF INT n=NIL;n|:=1", "REF INT n=NIL;n|:=SKIP", "REF REF INT n=NIL;n|:=NIL",
            "REF STRUCT(INT p)n=NIL;STRUCT(INT p)v=|n;1"};
        for (String marked : used) {
            Check.failsAt(2, marked);
        }
        Check.prints("REF INT n=NIL;PRINT(n IS NIL);PRINT(n IS n);PRINT(n ISNT NIL);LOC INT a;PRINT(a IS n);PRINT(a ISNT n)",
                "B1 B1 B0 B0 B1");
        Check.prints("REF INT n=NIL;REF INT m=n;LOC REF INT k:=n;n;UNION(REF INT,BOOL)u=n;[]REF INT r=(n,NIL);PRINT(r[1]IS r[2])",
                "B1");
    }

    /* In one node what is undefined is told first, then NIL, then BOUND. */
    private static void undefinedAheadOfNil() {
        Check.failsAt(1, "REF[]INT n=NIL;INT u=SKIP;n|[u]");
        Check.failsAt(1, "REF[]INT n=NIL;INT u=SKIP;n|[u:1]");
        Check.failsAt(1, "REF[]INT n=NIL;INT u=SKIP;n|[1:u]");
        Check.failsAt(2, "REF[]INT n=NIL;n|[99]");
        Check.failsAt(2, "REF[]INT n=NIL;n|[0:99]");
        Check.failsAt(1, "[]INT r=1;INT u=SKIP;r|[99:u]");
        Check.failsAt(1, "LOC[1:2]INT r:=SKIP;r|[99]");
        Check.failsAt(1, "INT u=SKIP;|LOC[99999:u]INT;1");
        Check.failsAt(1, "INT u=SKIP;|LOC[u:99999]INT;1");
        Check.failsAt(2, "REF INT n=NIL;INT u=SKIP;n|:=u");
        Check.failsAt(2, "(REF REF INT n=NIL;n|:=LOC INT)");
        Check.prints("LOC STRUCT(INT p,[]INT q)s:=(SKIP,SKIP);STRUCT(INT p,[]INT q)t=s;LOC STRUCT(INT p,[]INT q)r:=t;p OF r:=1;"
                + "PRINT(p OF r)", "I1");
        Check.failsAt(2, "REF INT n=NIL;|n+INT(SKIP)");
        Check.failsAt(1, "LOC INT m;m|+INT(SKIP)");
    }

    private static void bounds() {
        String[] rows = {"[]INT r=(7,8,9);", "LOC[1:3]INT r:=(7,8,9);", "LOC[]INT r:=(7,8,9);"};
        for (String row : rows) {
            Check.prints(row + "PRINT(r[1]);PRINT(r[3])", "I7 I9");
            Check.failsAt(3, row + "r|[0]");
            Check.failsAt(3, row + "r|[4]");
            Check.failsAt(3, row + "r|[2147483647]");
            Check.failsAt(3, row + "r|[-2147483647-1]");
            Check.prints(row + "PRINT(UPB r[1:3]);PRINT(r[1:3][3]);PRINT(UPB r[2:2]);PRINT(r[2:2][1])", "I3 I9 I1 I8");
            Check.failsAt(3, row + "r|[0:3]");
            Check.failsAt(3, row + "r|[1:4]");
            Check.failsAt(3, row + "r|[0:0]");
            Check.failsAt(3, row + "r|[4:4]");
            Check.failsAt(3, row + "r|[-2147483647-1:2147483647]");
            Check.prints(row + "PRINT(UPB r[1:0]);PRINT(UPB r[4:3]);PRINT(UPB r[9:-9]);PRINT(LWB r[3:2]);"
                    + "PRINT(UPB r[2147483647:-2147483647-1])",
                    "I0 I0 I0 I1 I0");
            Check.failsAt(3, row + "r[2:3]|[0]");
            Check.failsAt(3, row + "r[2:3]|[3]");
        }
        Check.prints("LOC[-1:1]INT r;r[-1]:=4;r[1]:=6;PRINT(r[-1]);PRINT(r[1]);PRINT(LWB r);PRINT(UPB r);PRINT(LWB r[-1:1])",
                "I4 I6 I-1 I1 I1");
        Check.failsAt(3, "LOC[-1:1]INT r;r|[-2]");
        Check.failsAt(3, "LOC[-1:1]INT r;r|[2]");
        Check.failsAt(3, "LOC[-1:1]INT r;r|[-2:1]");
        Check.failsAt(3, "LOC[-1:1]INT r;r|[-1:2]");
        String[] empty = {"[]INT r=();", "LOC[]INT r;", "LOC[1:0]INT r;", "LOC[5:4]INT r;", "LOC[2147483647:-2147483647]INT r;",
            "HEAP[5:1]INT r;"};
        for (String row : empty) {
            Check.prints(row + "PRINT(LWB r);PRINT(UPB r);PRINT(UPB r[1:0]);PRINT(UPB r[5:4])", "I1 I0 I0 I0");
            Check.failsAt(3, row + "r|[1]");
            Check.failsAt(3, row + "r|[0]");
            Check.failsAt(3, row + "r|[1:1]");
            Check.failsAt(3, row + "r|[0:0]");
        }
        Check.prints("LOC[2147483647:2147483647]INT r;PRINT(LWB r);PRINT(UPB r);r[2147483647]:=3;PRINT(r[UPB r])",
                "I2147483647 I2147483647 I3");
    }

    private static void agesOfNames() {
        Check.prints("LOC REF INT r:=LOC INT;r:=LOC INT;PRINT(1)", "I1");
        Check.prints("(LOC REF INT r:=LOC INT;r:=LOC INT;PRINT(1))", "I1");
        Check.failsAt(4, "LOC REF INT r;(r|:=LOC INT;1)");
        Check.failsAt(4, "|HEAP REF INT r:=LOC INT;1");
        Check.failsAt(4, "HEAP REF INT r;r|:=LOC INT;1");
        Check.prints("HEAP REF INT r:=HEAP INT;r:=NIL;r:=SKIP;(r:=HEAP INT;1);PRINT(1)", "I1");
        Check.prints("LOC INT a;(LOC REF INT r:=a;r:=HEAP INT;r:=NIL;1);PRINT(1)", "I1");
        Check.failsAt(4, "LOC REF INT r;PROC VOID f=VOID:r|:=LOC INT;f");
        Check.failsAt(4, "LOC REF INT r;FOR i TO 1 DO r|:=LOC INT OD");
        Check.failsAt(4, "LOC STRUCT(REF INT p)s;(p OF s|:=LOC INT;1)");
        Check.failsAt(4, "LOC[1:2]REF INT s;(s[1]|:=LOC INT;1)");
        Check.failsAt(4, "LOC STRUCT(INT q,REF INT p)s;(s|:=(1,LOC INT);1)");
        Check.failsAt(4, "LOC[]REF INT s;(s|:=(NIL,LOC INT,NIL);1)");
        Check.failsAt(4, "LOC UNION(REF INT,BOOL)s;(s|:=LOC INT;1)");
        Check.failsAt(4, "LOC[]UNION(INT,REF BOOL)s;(s|:=(1,LOC BOOL);1)");
        Check.prints("LOC STRUCT(INT q,REF INT p)s;(s:=(1,HEAP INT);1);(s:=(1,NIL);s:=SKIP;1);PRINT(1)", "I1");
        Check.prints("LOC INT a;LOC[]REF INT s;(s:=(a,NIL,a);1);PRINT(UPB s)", "I3");
        Check.failsAt(4, "|HEAP STRUCT(REF INT p,INT q)s:=(LOC INT,1);1");
        Check.prints("HEAP[]INT h:=(1,2);HEAP STRUCT(INT p,REF INT q)s:=(3,NIL);HEAP UNION(INT,BOOL)u:=4;h:=h[2:2];s:=s;u:=u;"
                + "PRINT(h[1])", "I2");
        Check.failsAt(4, "LOC[]REF INT r;(LOC INT a;[]REF INT s=(NIL,a);r:=s[1:1];r|:=s[2:2];1)");
        Check.failsAt(4, "LOC[]REF INT r;(LOC INT a;LOC[]REF INT s:=(NIL,a);r:=s[1:1];r|:=s[2:2];1)");
        Check.failsAt(4, "LOC STRUCT([]REF INT p)r;(LOC INT a;p OF r|:=[]REF INT(a);1)");
        Check.failsAt(4, "|HEAP PROC INT f:=(INT:a);INT a=1;1");
        Check.prints("HEAP PROC INT f:=(INT:7);PRINT(f)", "I7");
        Check.failsAt(4, "LOC REF REF INT r;(LOC REF INT s:=HEAP INT;r|:=s;1)");
        Check.prints("LOC REF INT r;(LOC REF INT s:=HEAP INT;r:=s;1);PRINT(1)", "I1");
        Check.failsAt(4, "LOC REF STRUCT(INT p)r;(LOC STRUCT(INT p)s;r|:=s;1)");
        Check.failsAt(4, "LOC REF INT r;(LOC STRUCT(INT p)s;r|:=p OF s;1)");
        Check.failsAt(4, "LOC REF INT r;(LOC[1:2]INT s;r|:=s[2];1)");
        Check.prints("LOC REF INT r;(HEAP[1:2]INT s;r:=s[2];s[2]:=5;1);PRINT(r)", "I5");
        Check.failsAt(4, "HEAP[]REF INT h;h:=(NIL,NIL);h[1]|:=LOC INT;1");
        Check.failsAt(4, "HEAP STRUCT(REF INT p)h;p OF h|:=LOC INT;1");
        Check.failsAt(4, "LOC[]REF INT r;(r:=(NIL,NIL);1);(r[2]|:=LOC INT;1)");
        Check.failsAt(4, "LOC[]STRUCT(REF INT p,INT q)r;(r:=((NIL,1),(NIL,2));1);(p OF r[2]|:=LOC INT;1)");
        Check.prints("(LOC[]REF INT r;r:=(NIL,NIL);r[1]:=LOC INT;LOC STRUCT(REF INT p)s;p OF s:=LOC INT;"
                + "PRINT(REF INT(r[2])IS NIL))", "B1");
    }

    private static void agesOfRoutines() {
        Check.failsAt(4, "LOC PROC INT f;(INT a=1;f|:=INT:a;1)");
        Check.prints("LOC PROC INT f;(INT a=1;f:=INT:2;1);PRINT(f)", "I2");
        Check.prints("INT b=4;LOC PROC INT f;(INT a=1;f:=INT:b;1);PRINT(f)", "I4");
        Check.failsAt(4, "INT b=4;LOC PROC INT f;(INT a=1;f|:=INT:a+b;1)");
        Check.prints("LOC PROC(INT)INT f;(f:=(INT n)INT:n+1;1);PRINT(f(2))", "I3");
        Check.prints("LOC PROC INT f;(f:=INT:(INT a=3;a);1);PRINT(f)", "I3");
        Check.prints("LOC PROC INT f;(f:=INT:(FOR i TO 1 DO PRINT(i)OD;8);1);PRINT(f)", "I1 I8");
        Check.failsAt(4, "LOC PROC INT f;(OP A=(INT n)INT:n;f|:=INT:A 1;1)");
        Check.prints("LOC PROC INT f;OP A=(INT n)INT:n;(f:=INT:A 1;1);PRINT(f)", "I1");
        Check.prints("LOC PROC INT f;(f:=INT:(OP A=(INT n)INT:n;A 1);1);PRINT(f)", "I1");
        Check.failsAt(4, "LOC PROC INT f;FOR i TO 1 DO f|:=INT:i OD");
        Check.failsAt(4, "LOC PROC INT f;PROC(INT)VOID g=(INT n)VOID:f|:=INT:n;g(1)");
        Check.failsAt(4, "LOC PROC INT f;CASE UNION(INT,BOOL)(1)WHEN(INT n):f|:=INT:n ESAC");
        Check.failsAt(4, "LOC PROC PROC INT f;(INT a=1;f|:=PROC INT:INT:a;1)");
        Check.prints("LOC PROC PROC INT f;(f:=PROC INT:(INT:5);1);PRINT(f)", "I5");
        Check.prints("(INT a=1;LOC PROC INT f;f:=INT:a;PRINT(f))", "I1");
        Check.failsAt(4, "LOC PROC INT f;(INT a=1;(f|:=INT:a;1);1)");
        Check.failsAt(4, "INT b=1;LOC PROC INT f;(INT a=b;((f|:=INT:a;1);1);1)");
    }

    private static void agesThatLeave() {
        Check.failsAt(4, "REF INT r=(|LOC INT);1");
        Check.failsAt(4, "REF INT r=BEGIN |LOC INT a;a END;1");
        Check.prints("REF INT r=(HEAP INT);REF INT s=(r);REF INT t=(NIL);PRINT(r IS s)", "B1");
        Check.prints("LOC INT a;REF INT r=(INT b=1;a);PRINT(r IS a)", "B1");
        Check.failsAt(4, "LOC INT a;REF INT r=((|LOC INT b;b));1");
        Check.failsAt(4, "REF INT r=(((|1;LOC INT)));1");
        Check.failsAt(4, "REF INT r=IF TRUE THEN |LOC INT FI;1");
        Check.failsAt(4, "REF INT r=CASE 9 IN NIL,NIL OUT |LOC INT ESAC;1");
        Check.prints("REF INT r=CASE 1 IN LOC INT,NIL ESAC;PRINT(r IS NIL)", "B0");
        Check.failsAt(4, "REF INT r=REF INT(|LOC INT);1");
        Check.failsAt(4, "REF INT r=(|LOC[1:2]INT a;a[1]);1");
        Check.failsAt(4, "REF INT r=(|LOC STRUCT(INT p)a;p OF a);1");
        Check.failsAt(4, "REF INT r=(|LOC[]INT a;a:=(1,2);a[2]);1");
        Check.prints("REF INT r=(HEAP[1:2]INT a;a[1]:=3;a[1]);PRINT(r)", "I3");
        Check.prints("INT r=(LOC[1:2]INT a;a[1]:=3;a[1]);[]INT s=(LOC[]INT a:=(1,2);a);PRINT(r+s[2])", "I5");
        Check.prints("(LOC INT);(LOC INT;LOC INT);PRINT(INT(LOC INT:=3)+1)", "I4");
        Check.failsAt(4, "PRINT((|LOC INT:=3)+1)");
        Check.failsAt(4, "PROC REF INT f=REF INT:LOC INT;REF INT r=|f;1");
        Check.failsAt(4, "PROC REF INT f=REF INT:LOC INT;|f;1");
        Check.failsAt(4, "PROC(INT)REF INT f=(INT n)REF INT:LOC INT;f|(1);1");
        Check.failsAt(4, "OP A=(INT n)REF INT:LOC INT;|A 1;1");
        Check.failsAt(4, "OP A=(INT n,INT m)REF INT:LOC INT;1 |A 1;1");
        Check.prints("PROC REF INT f=REF INT:HEAP INT:=3;PRINT(f)", "I3");
        Check.prints("PROC(REF INT)REF INT f=(REF INT n)REF INT:n;LOC INT a:=2;PRINT(f(a));PRINT(f(LOC INT:=4))", "I2 I4");
        Check.failsAt(4, "PROC(INT)PROC INT f=(INT n)PROC INT:INT:n;PROC INT g=f|(1);1");
        Check.failsAt(4, "REF INT r=|CASE UNION(INT,BOOL)(1)WHEN(INT n):LOC INT ESAC;1");
        Check.failsAt(4, "PROC INT r=|CASE UNION(INT,BOOL)(1)WHEN(INT n):INT:n ESAC;1");
        Check.prints("REF INT r=CASE UNION(INT,BOOL)(1)WHEN(INT n):HEAP INT ESAC;PRINT(r IS NIL)", "B0");
        Check.prints("REF INT r=CASE UNION(REF INT,BOOL)(HEAP INT)WHEN(REF INT n):n ESAC;PRINT(1)", "I1");
        Check.failsAt(4, "REF INT r=CASE UNION(REF INT,BOOL)(|LOC INT)WHEN(REF INT n):n ESAC;1");
        Check.failsAt(4, "REF INT r=CASE UNION(INT,BOOL)(TRUE)WHEN(INT n):NIL OUT |LOC INT ESAC;1");
        Check.failsAt(4, "STRUCT(INT p,REF INT q)s=(|LOC INT a;STRUCT(INT p,REF INT q)((1,a)));1");
        Check.failsAt(4, "[]REF INT s=(|LOC INT a;[]REF INT(a));1");
        Check.failsAt(4, "UNION(REF INT,BOOL)s=(|LOC INT a;UNION(REF INT,BOOL)(a));1");
        Check.failsAt(4, "PROC INT f=(|INT a=1;INT:a);1");
        Check.prints("PROC INT f=(INT a=1;INT:2);PRINT(f)", "I2");
    }

    private static void numbers() {
        String least = "INT l=-2147483647-1;";
        Check.prints("PRINT(2147483646+1);PRINT(-2147483647-1);PRINT(46340*46340);PRINT(-65536*32768)",
                "I2147483647 I-2147483648 I2147395600 I-2147483648");
        Check.failsAt(5, "2147483647|+1");
        Check.failsAt(5, "-2147483647|-2");
        Check.failsAt(5, "46341|*46341");
        Check.failsAt(5, "65536|*32768");
        Check.failsAt(5, "-65536|*32769");
        Check.failsAt(5, least + "|-l");
        Check.failsAt(5, least + "l|*(-1)");
        Check.failsAt(5, least + "(-1)|*l");
        Check.prints(least + "PRINT(0*l);PRINT(l*0);PRINT(1*l);PRINT(-1*5);PRINT(5*(-1));PRINT(-1*(-1));PRINT(0/5);PRINT(0%5)",
                "I0 I0 I-2147483648 I-5 I-5 I1 I0 I0");
        Check.failsAt(5, least + "l|/(-1)");
        Check.failsAt(5, least + "0|-l");
        Check.failsAt(5, least + "l|+l");
        Check.failsAt(5, least + "l|-1");
        Check.prints(least + "PRINT(l*1);PRINT(l/1);PRINT(l%(-1));PRINT(l+1);PRINT(+l);PRINT(-1-l);PRINT(-(l+1));PRINT(l/2);"
                + "PRINT(l%2)",
                "I-2147483648 I-2147483648 I0 I-2147483647 I-2147483648 I2147483647 I2147483647 I-1073741824 I0");
        Check.failsAt(5, "1|/0");
        Check.failsAt(5, "0|/0");
        Check.failsAt(5, "1|%0");
        Check.failsAt(5, least + "l|%0");
        Check.prints("PRINT(7/2);PRINT(-7/2);PRINT(7/(-2));PRINT(-7/(-2));PRINT(7%2);PRINT(-7%2);PRINT(7%(-2));PRINT(-7%(-2));"
                + "PRINT(1/2);PRINT(-1/2)",
                "I3 I-3 I-3 I3 I1 I-1 I1 I-1 I0 I0");
        Check.prints(least + "PRINT(l<2147483647);PRINT(l>2147483647);PRINT(2147483647<=l);PRINT(l=l);PRINT(l/=l);PRINT(l>=l)",
                "B1 B0 B0 B1 B0 B1");
    }

    private static void longNumbers() {
        String most = "LONG m=LONG 2147483647*LONG 2147483647*LONG 2+LONG 2147483647*LONG 4+LONG 1;LONG l=-m-LONG 1;LONG o=1;";
        Check.prints(most + "PRINT(m);PRINT(l);PRINT(m-o+o);PRINT(l+o-o);PRINT(-m);PRINT(+l);PRINT(l%(-o));PRINT(l*o);"
                + "PRINT(l/o);PRINT(-o-l)",
                "L9223372036854775807 L-9223372036854775808 L9223372036854775807 L-9223372036854775808 L-9223372036854775807 "
                + "L-9223372036854775808 L0 L-9223372036854775808 L-9223372036854775808 L9223372036854775807");
        String[] wrong = {"m|+o", "o|+m", "l|-o", "|-l", "l|*(-o)", "(-o)|*l", "l|/(-o)", "m|*LONG 2", "LONG 2|*m", "LONG 0|-l",
            "l|+l", "m|/LONG 0", "m|%LONG 0", "l|*LONG 2", "-m|-LONG 2", "(-m)|+(-LONG 2)", "l|*l", "m|*m"};
        for (String marked : wrong) {
            Check.failsAt(5, most + marked);
        }
        Check.prints(most + "PRINT(o*l);PRINT((-o)*m);PRINT(m*(-o));PRINT(LONG 0*l);PRINT(l*LONG 0);PRINT((-o)*LONG 5);"
                + "PRINT(-o*(-o));PRINT(m/(-o));"
                + "PRINT(m%(-o));PRINT(-o+o)",
                "L-9223372036854775808 L-9223372036854775807 L-9223372036854775807 L0 L0 L-5 L1 L-9223372036854775807 L0 L0");
        Check.prints("LONG o=7;LONG t=2;PRINT(o/t);PRINT(-o/t);PRINT(o/(-t));PRINT(o%t);PRINT(-o%t);PRINT(o%(-t))",
                "L3 L-3 L-3 L1 L-1 L1");
        Check.prints(most + "PRINT(m>l);PRINT(m=m);PRINT(l<m);PRINT(m/=l);PRINT(m<=l);PRINT(l>=m);PRINT(l=l)",
                "B1 B1 B1 B1 B0 B0 B1");
        String root = "LONG r=LONG 2147483647+LONG 889516852;";
        Check.prints(root + "PRINT(r*r);PRINT(r*(-r))", "L9223372030926249001 L-9223372030926249001");
        Check.failsAt(5, root + "(r+LONG 1)|*(r+LONG 1)");
        Check.prints("PRINT(SHORTEN LONG 2147483647);PRINT(SHORTEN(-LONG 2147483647-LONG 1));PRINT(LENG 2147483647+LONG 1)",
                "I2147483647 I-2147483648 L2147483648");
        Check.failsAt(5, "|SHORTEN(LONG 2147483647+LONG 1)");
        Check.failsAt(5, "|SHORTEN(-LONG 2147483647-LONG 2)");
        Check.failsAt(5, most + "|SHORTEN m");
        Check.prints("INT i=-2147483647-1;LONG l=i;PRINT(l);PRINT(LENG i-LONG 1);PRINT(-LENG i)",
                "L-2147483648 L-2147483649 L2147483648");
    }

    /* Each comparison of less, the same and more; and each of two BOOLS. */
    private static void comparisons() {
        String[] signs = {"=", "/=", "<", "<=", ">", ">="};
        boolean[][] holds = {{false, true, false}, {true, false, true}, {true, false, false}, {true, true, false},
            {false, false, true}, {false, true, true}};
        for (int s = 0; s < signs.length; s++) {
            String want = "B" + (holds[s][0] ? 1 : 0) + " B" + (holds[s][1] ? 1 : 0) + " B" + (holds[s][2] ? 1 : 0);
            Check.prints("PRINT(1@2);PRINT(2@2);PRINT(3@2)".replace("@", signs[s]), want);
            Check.prints("PRINT(-2@2);PRINT(-2@(-2));PRINT(2@(-2))".replace("@", signs[s]), want);
            Check.prints("PRINT(LONG 1@LONG 2);PRINT(LONG 2@LONG 2);PRINT(LONG 3@LONG 2)".replace("@", signs[s]), want);
        }
        String both = "PRINT(FALSE@FALSE);PRINT(FALSE@TRUE);PRINT(TRUE@FALSE);PRINT(TRUE@TRUE)";
        Check.prints(both.replace("@", "="), "B1 B0 B0 B1");
        Check.prints(both.replace("@", "/="), "B0 B1 B1 B0");
        Check.prints(both.replace("@", "&"), "B0 B0 B0 B1");
        Check.prints(both.replace("@", "!"), "B0 B1 B1 B1");
        Check.prints("PRINT(~TRUE);PRINT(~FALSE);PRINT(+3);PRINT(-3);PRINT(+LONG 3);PRINT(-LONG 3);PRINT(LENG 3);"
                + "PRINT(SHORTEN LONG 3)",
                "B0 B1 I3 I-3 L3 L-3 L3 I3");
    }

    /* Failure, its place, and how many PLACES were made. */
    private static void makes(String text, String want) {
        String[] words = Check.run(text, 0, 3000).split(" ");
        Check.due("places of " + text, words.length > 3 ? words[0] + " " + words[1] + " " + words[3] : String.join(" ", words),
                want);
    }

    private static void places() {
        makes("LOC INT a;1", "0 -1 1");
        makes("LOC STRUCT(INT p,INT q)a;1", "0 -1 3");
        makes("LOC STRUCT(INT p,STRUCT(INT r,INT s)q)a;1", "0 -1 5");
        makes("LOC[]INT a;1", "0 -1 1");
        makes("LOC[1:5]INT a;1", "0 -1 6");
        makes("LOC[5:1]INT a;1", "0 -1 1");
        makes("LOC[1:5]STRUCT(INT p,INT q)a;1", "0 -1 16");
        makes("LOC[1:5][]INT a;1", "0 -1 6");
        makes("LOC STRUCT([]INT p)a;1", "0 -1 2");
        makes("LOC REF STRUCT(INT p)a;1", "0 -1 1");
        makes("LOC UNION(INT,STRUCT(INT p))a;1", "0 -1 1");
        makes("HEAP INT;LOC INT;1", "0 -1 2");
        makes("LOC[]INT a:=(1,2);1", "0 -1 3");
        makes("LOC[1:2]INT a:=(1,2);1", "0 -1 5");
        makes("LOC[1:2]INT a;a:=(1,2);a:=(1,2,3);1", "0 -1 8");
        makes("LOC[1:2]INT a;a:=();a:=SKIP;1", "0 -1 3");
        makes("LOC[1:2]STRUCT(INT p,INT q)a;a:=((1,2),(3,4));1", "0 -1 13");
        makes("LOC[][]INT a:=((1,2),(3,4,5));1", "0 -1 8");
        makes("LOC STRUCT(INT p,[]INT q)a:=(1,(1,2));1", "0 -1 5");
        makes("LOC STRUCT(INT p,INT q)a;a:=(1,2);1", "0 -1 3");
        makes("(LOC INT);(LOC INT);1", "0 -1 2");
        makes("INT a=1;[]INT b=(1,2);PROC INT f=INT:1;f", "0 -1 0");
        String most = "LOC[1:64]INT a;LOC[1:64]INT b;LOC[1:64]INT c;LOC[1:64]INT d;";
        makes(most + "LOC[1:39]INT e;1", "0 -1 300");
        makes(most + "LOC[1:40]INT e;1", "6 60 260");
        makes(most + "LOC[1:38]INT e;LOC INT f;1", "0 -1 300");
        makes(most + "LOC[1:38]INT e;LOC INT f;LOC INT g;1", "6 85 300");
        makes(most + "LOC[1:38]INT e;LOC INT;HEAP INT;1", "6 83 300");
        makes(most + "LOC[1:38]INT e;HEAP INT g:=3;LOC INT h:=4;1", "6 89 300");
        makes(most + "LOC[1:37]INT e;LOC STRUCT(INT p)f;1", "0 -1 300");
        makes(most + "LOC[1:37]INT e;LOC STRUCT(INT p,INT q)f;1", "6 75 298");
        makes(most + "LOC[1:36]INT e;LOC[]INT f:=(1,2);1", "0 -1 300");
        makes(most + "LOC[1:36]INT e;LOC[]INT f:=(1,2,3);1", "6 75 298");
        makes(most + "LOC[1:36]INT e;LOC[]INT f;f:=(1,2);1", "0 -1 300");
        makes(most + "LOC[1:36]INT e;LOC[]INT f;f:=(1,2,3);1", "6 87 298");
        makes(most + "LOC[1:36]INT e;LOC[]INT f;f:=(1,2);f:=();f:=SKIP;1", "0 -1 300");
        makes(most + "LOC[1:13]STRUCT(INT p,INT q)e;1", "0 -1 300");
        makes(most + "LOC[1:14]STRUCT(INT p,INT q)e;1", "6 60 260");
        makes(most + "LOC[1:30]INT e;LOC[][]INT f;f:=((1,2),(1,2,3,4));1", "0 -1 300");
        makes(most + "LOC[1:30]INT e;LOC[][]INT f;f:=((1,2),(1,2,3,4,5));1", "6 89 292");
        makes(most + "LOC[1:30]INT e;LOC[][]INT f:=((1,2),(1,2,3,4,5));1", "6 75 292");
        makes(most + "LOC[1:36]INT e;LOC[]REF INT f;(LOC INT x;f:=(x,NIL);1)", "4 102 299");
        makes(most + "LOC[1:36]INT e;LOC[]REF INT f;(LOC INT x;f:=(NIL,NIL);1)", "6 102 299");
        makes("FOR i TO 300 DO LOC INT OD;PRINT(1)", "0 -1 300");
        makes("FOR i TO 301 DO LOC INT OD;PRINT(1)", "6 16 300");
        String modes = "MODE A=STRUCT(INT p,INT q,INT r,INT s,INT t,INT u,INT v,INT w);"
                + "MODE B=STRUCT(A p,A q,A r,A s,A t,A u,A v,A w);";
        makes(modes + "LOC B a;1", "0 -1 73");
        makes(modes + "LOC[1:4]B a;1", "0 -1 293");
        makes(modes + "LOC[1:5]B a;1", "6 " + modes.length() + " 0");
        makes(modes + "LOC[1:4]B a;LOC[1:6]INT b;1", "0 -1 300");
        makes(modes + "LOC[1:4]B a;HEAP[1:7]INT b;1", "6 " + (modes.length() + 12) + " 293");
        String turned = "MODE B=STRUCT(A p,A q,A r,A s,A t,A u,A v,A w);"
                + "MODE A=STRUCT(INT p,INT q,INT r,INT s,INT t,INT u,INT v,INT w);";
        makes(turned + "LOC[1:4]B a;1", "0 -1 293");
        makes(turned + "LOC[1:5]B a;1", "6 " + turned.length() + " 0");
        makes(turned + "LOC STRUCT(B p,B q,B r,B s,STRUCT(INT a,INT b,INT c,INT d,INT e)t,INT u)a;1", "0 -1 300");
        makes(turned + "LOC STRUCT(B p,B q,B r,B s,STRUCT(INT a,INT b,INT c,INT d,INT e)t,INT u,INT v)a;1",
                "6 " + turned.length() + " 0");
        makes(turned + "LOC STRUCT(B p,B q,B r,B s,B t)a;1", "6 " + turned.length() + " 0");
        makes("MODE E=STRUCT(D a,D b,D c,D d);MODE D=STRUCT(A a,A b,A c,A d);MODE A=STRUCT(B a,B b,B c,B d);"
                + "MODE B=STRUCT(INT a,INT b,INT c,INT d);LOC E e;1",
                "6 132 0");
    }

    private static void sizes() {
        Check.prints(SIZES + "[][][]INT c=" + FULL + ";PRINT(UPB c)", "I5");
        Check.failsAt(6, SIZES + "[][][]INT c=|(b,b,b,b,y);1");
        Check.prints(SIZES + "STRUCT([][]INT p,[][]INT q,[][]INT r,[][]INT s,[][]INT t)c=" + FULL + ";PRINT(UPB t OF c)", "I1");
        Check.failsAt(6, SIZES + "STRUCT([][]INT p,[][]INT q,[][]INT r,[][]INT s,[][]INT t)c=|(b,b,b,b,y);1");
        Check.prints(SIZES + "UNION([][]INT,INT)u=b;[]UNION([][]INT,INT)c=(u,u,u,u,1);PRINT(UPB c)", "I5");
        Check.failsAt(6, SIZES + "UNION([][]INT,INT)u=b;[]UNION([][]INT,INT)c=|(u,u,u,u,1,1);1");
    }

    private static void sizesOfSteps() {
        String less = SIZES + "[][][]INT c=" + LESS + ";";
        String full = SIZES + "[][][]INT c=" + FULL + ";";
        Check.prints(less + "[][][][]INT d=c;PRINT(UPB d)", "I1");
        Check.failsAt(6, full + "[][][][]INT d=|c;1");
        Check.failsAt(6, less + "[][][][][]INT d=|c;1");
        Check.prints(less + "UNION([][][]INT,INT)d=c;PRINT(1)", "I1");
        Check.failsAt(6, full + "UNION([][][]INT,INT)d=|c;1");
        Check.prints(SIZES + "[][]INT d=b[1:7];[][][]INT c=(d,b,b,b,x);PRINT(UPB c)", "I5");
        Check.failsAt(6, SIZES + "[][]INT d=b[1:7];[][][]INT c=|(d,b,b,b,b);1");
        Check.prints(full + "[][][]INT d=c;PROC[][][]INT f=[][][]INT:c;PRINT(UPB f[1:5])", "I5");
        Check.prints(less + "UNION([][][]INT,INT)d=c;UNION([][][]INT,INT,BOOL)e=d;PRINT(1)", "I1");
        String struct = SIZES + "[][][]INT c=(b,b,b,b,[]INT((1,#)));MODE U=UNION([][][]INT,INT);LOC STRUCT(U p,INT q)s;"
                + "p OF s:=c;";
        Check.prints(struct.replace("#", "2") + "STRUCT(U p,INT q)t=s;PRINT(1)", "I1");
        Check.failsAt(6, struct.replace("#", "2,3") + "STRUCT(U p,INT q)t=|s;1");
        Check.prints(struct.replace("#", "2,3,4") + "U t=p OF s;PRINT(1)", "I1");
        String row = SIZES + "[][][]INT c=(b,b,b,b,[]INT((1,2,#)));MODE U=UNION([][][]INT,INT);LOC[1:2]U s;s[1]:=c;s[2]:=1;";
        Check.prints(row.replace("#", "3") + "[]U t=s[1:1];PRINT(UPB t)", "I1");
        Check.failsAt(6, row.replace("#", "3,4") + "[]U t=s|[1:1];1");
        Check.prints(row.replace("#", "3,4") + "[]U t=s[2:2];PRINT(UPB t)", "I1");
        Check.failsAt(6, row.replace("#", "3") + "[]U t=|s;1");
    }

    private static void elements() {
        Check.prints("LOC[1:64]INT a;PRINT(UPB a);LOC[-31:32]INT b;PRINT(UPB b)", "I64 I32");
        Check.failsAt(6, "|LOC[1:65]INT a;1");
        Check.failsAt(6, "|LOC[-32:32]INT;1");
        Check.failsAt(6, "|HEAP[0:64]INT a;1");
        Check.failsAt(6, "|LOC[-2147483647-1:2147483647]INT;1");
        Check.failsAt(6, "|LOC[0:2147483647]INT;1");
        makes("LOC INT x;LOC[1:65]INT a;1", "6 10 1");
    }

    private static void deepest(String text, int depth) {
        String[] words = Check.run(text, 0, 3000).split(" ");
        Check.due("depth of " + text, words.length > 4 ? words[4] : String.join(" ", words), depth);
    }

    private static void depths() {
        deepest("1", 1);
        deepest("(1)", 2);
        deepest("((1));(1)", 3);
        deepest("IF TRUE THEN 1 FI", 2);
        deepest("CASE 1 IN 1,2 ESAC", 2);
        deepest("CASE 1 IN(1),2 ESAC", 2);
        deepest("DO 1 OD", 3);
        deepest("TO 0 DO 1 OD", 1);
        deepest("WHILE FALSE DO 1 OD", 3);
        deepest("INT(1)", 2);
        deepest("PROC INT f=INT:1;f", 2);
        deepest("PROC INT f=INT:(1);f", 3);
        deepest("PROC(INT)INT f=(INT n)INT:n;f(1)", 2);
        deepest("PROC(INT)INT f=(INT n)INT:n;(f(1))", 3);
        deepest("OP A=(INT n)INT:n;A 1", 2);
        deepest("OP A=(INT n)INT:n;1+A 1", 2);
        deepest("UNION(INT,BOOL)u=1;CASE u WHEN(INT i):1 ESAC", 2);
        deepest("UNION(INT,BOOL)u=1;CASE u WHEN(INT i):(1)ESAC", 3);
        deepest("UNION(INT,BOOL)u=TRUE;CASE u WHEN(INT i):(1)OUT 1 ESAC", 2);
        deepest("UNION(INT,BOOL)u=TRUE;CASE u WHEN(INT a):1 OUT(1)ESAC;CASE u WHEN(BOOL b):2 ESAC", 3);
        deepest("[]INT a=(1,2);a[1]", 1);
    }

    /* Each RANGE that begins where the DEPTH is 39 is right; where it is 40 it is refused, at the marked node. */
    private static void tooDeep() {
        String[] inner = {"(|1)", "(|1+1)", "BEGIN |MODE M=INT;1 END", "f|(1)", "|A 1", "1 |B 1", "|g", "PRINT(|g)",
            "CASE |u WHEN(INT i):1 ESAC", "IF |TRUE THEN 1 FI", "INT(|1)"};
        String setup = "PROC(INT)INT f=(INT a)INT:1;OP A=(INT a)INT:1;OP B=(INT a,INT b)INT:1;PROC INT g=INT:1;"
                + "UNION(INT,BOOL)u=1;";
        for (String marked : inner) {
            String deep = setup + "PROC(INT)VOID d=(INT n)VOID:IF n>1 THEN d(n-1)ELSE " + marked + " FI;";
            Check.due("40 deep " + marked, ending(Check.plain(deep) + deepen(39)), "0 -1");
            Check.due("41 deep " + marked, ending(Check.plain(deep) + deepen(40)), "6 " + Check.mark(deep));
        }
        String turn = "PROC(INT)VOID d=(INT n)VOID:IF n>1 THEN d(n-1)ELSE FOR i FROM 1 TO 1 DO 1+1 OD FI;";
        Check.due("a turn of 41", ending(turn + deepen(40)), "6 " + turn.indexOf("FOR"));
        Check.due("a DO of 41", ending(turn + deepen(39)), "6 " + turn.indexOf("1+1"));
        Check.due("a DO of 40", ending(turn + deepen(38)), "0 -1");
        Check.failsAt(6, "PROC INT f=INT:|f;f");
        Check.failsAt(6, "PROC INT f=INT:(|f);f");
        Check.failsAt(6, "PROC(INT)INT f=(INT n)INT:f|(n);f(1)");
        Check.failsAt(6, "OP A=(INT n)INT:|A n;A 1");
        Check.failsAt(6, "OP A=(INT n,INT m)INT:n |A m;1 A 1");
    }

    private static String ending(String text) {
        return Check.outline(text).split(" :")[0];
    }

    /* d(n) has n times two RANGES, its own and that behind THEN or ELSE, on those of the program and the parentheses. */
    private static String deepen(int depth) {
        int parentheses = depth % 2 == 1 ? 0 : 1;
        int n = (depth - 1 - parentheses) / 2;
        return "(".repeat(parentheses) + "d(" + n + ")" + ")".repeat(parentheses);
    }

    private static void printed() {
        Check.prints("FOR i TO 200 DO PRINT(7)OD", "I7 ".repeat(200).trim());
        Check.failsAt(6, "FOR i TO 201 DO |PRINT(7)OD");
        Check.failsAt(6, "FOR i TO 200 DO PRINT(7)OD;|PRINT(TRUE)");
        String all = Check.run("FOR i TO 201 DO PRINT(i)OD", 0, 3000);
        Check.due("200 are told", all.endsWith(" I199 I200"), true);
    }
}
