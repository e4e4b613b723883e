/** Terms 1 and 2 (promise 3): tokens, the grammar, and where a SYNTAX fault is. */
public final class SyntaxTest {
    private SyntaxTest() {
    }

    public static void main(String[] args) {
        tokens();
        declarations();
        units();
        enclosed();
        declarers();
        counts();
        openings();
        Check.end();
    }

    private static void syntax(String text, int place) {
        Check.faulty(text, 1, place);
    }

    private static String many(String part, int times) {
        return part.repeat(times);
    }

    private static void tokens() {
        syntax("", 0);
        syntax("   ", 3);
        Check.good(" 1 ");
        Check.good("LOC INT abcdefgh;1");
        syntax("1;abcdefghi", 2);
        syntax("LOC INT a123456789", 8);
        syntax("1;ABCDEFGHI", 2);
        Check.good("2147483647");
        syntax("1;2147483648", 2);
        Check.good("0000000001");
        syntax("1;00000000001", 2);
        syntax("1;$", 2);
        syntax("1\u00ff", 1);
        syntax("1\t", 1);
        syntax("1#", 1);
        syntax("1 2", 2);
        Check.good("1+1;1<=2;1>=2;1/=2");
        syntax("1<=>2", 3);
        Check.good("INT a=1;INTb=a;b");
        Check.good("LOC INT a;a:=1");
        syntax("LOC INT a;a: =1", 11);
        syntax("1 ELSEX 2$", 9);
        Check.faulty("1 ELSEX 2", 6, 2);
        syntax("MODE $;A", 5);
        syntax("A a=1;$MODE A=INT;1", 6);
        syntax("INT a=1;A b=1;$MODE A=INT;1", 14);
        syntax("INT a=1;1 A(a=1);$", 17);
        Check.good("A a=1;MODE A=INT;1");
        Check.good("UNIT(1);MODE UNIT=INT;1");
    }

    private static void declarations() {
        syntax("INT a=1", 7);
        syntax("INT a=1;", 8);
        syntax("INT a", 5);
        syntax("INT a;1", 5);
        syntax("INT a:=1;1", 5);
        syntax("LOC INT a=1;1", 9);
        Check.good("LOC INT a:=1;HEAP INT b;b");
        syntax("MODE INT=INT;1", 5);
        syntax("MODE a=INT;1", 5);
        syntax("MODE A INT;1", 7);
        syntax("MODE A=1;1", 7);
        syntax("PRIO A=INT;1", 7);
        syntax("PRIO A=0;1", 7);
        syntax("PRIO A=10;1", 7);
        Check.good("PRIO A=9;1");
        syntax("PRIO +=9;1", 5);
        syntax("MODE A=INT;PRIO A=9;1", 16);
        syntax("OP A=(INT a)INT:1;MODE A=INT;1", 3);
        Check.good("OP A=(INT a)INT:1;1");
        syntax("OP A=INT:1;1", 5);
        syntax("OP *=(INT a)INT:1;1", 11);
        syntax("OP *=(INT a,INT b,INT c)INT:1;1", 17);
        syntax("OP -=(INT a,INT b,INT c)INT:1;1", 17);
        syntax("OP ~=(BOOL a,BOOL b)INT:1;1", 12);
        Check.good("OP ~=(BOOL a)INT:1;OP -=(INT a)INT:1;OP -=(INT a,INT b)INT:1;OP A=(INT a)INT:1;1");
        Check.good("OP ==(INT a,INT b)BOOL:TRUE;OP /==(INT a,INT b)BOOL:TRUE;1");
        syntax("OP :=(INT a,INT b)BOOL:TRUE;1", 3);
        syntax("OP +=(1);1", 6);
        syntax("(INT a=1,2);1", 8);
        syntax("(1,INT a=2);1", 7);
    }

    private static void units() {
        Check.good("SKIP");
        syntax("SKIP:=1", 4);
        syntax("1+NIL", 2);
        syntax("1+SKIP", 2);
        syntax("LOC INT a;a IS SKIP", 15);
        Check.good("LOC REF INT a;a IS NIL");
        syntax("~", 1);
        syntax("1~2", 1);
        syntax("*1", 0);
        Check.good("LOC INT a;a:=a:=1");
        syntax("LOC REF INT a;a IS NIL IS NIL", 23);
        Check.good("INT:1");
        Check.good("(INT a)INT:1");
        syntax("(INT a)1", 7);
        syntax("(INT a):1", 7);
        syntax("(INT a;1)", 6);
        syntax("1+(INT a)INT:1", 8);
        syntax("1+INT:1", 5);
        syntax("INT 1", 4);
        syntax("LONG", 4);
        Check.good("LONG 1;LONG(1);LONG:LONG 1");
        syntax("LONG+1", 4);
        syntax("p OF", 4);
        syntax("p OF NIL", 5);
        syntax("LOC 1", 4);
        syntax("1()", 2);
        syntax("1[]", 2);
        syntax("1[1,2]", 3);
        syntax("1[1:]", 4);
        syntax("1[1:2:3]", 5);
        syntax("LWB", 3);
        Check.good("LOC[1:2]INT a;-LWB a+UPB a[1:2]");
    }

    private static void enclosed() {
        syntax("(1", 2);
        syntax("(1]", 2);
        syntax("(1,)", 3);
        Check.good("[]INT a=();1");
        syntax("BEGIN 1 ENDE", 12);
        syntax("BEGIN 1 FI", 8);
        syntax("IF TRUE FI", 8);
        syntax("IF TRUE THEN 1 ELSE 2", 21);
        syntax("IF TRUE THEN 1 OUT 2 FI", 15);
        syntax("CASE 1 IN 1 ESAC", 12);
        Check.good("CASE 1 IN 1,2 ESAC");
        syntax("CASE 1 IN 1;2 ESAC", 11);
        syntax("CASE 1 OUT", 7);
        syntax("CASE a WHEN 1", 12);
        syntax("CASE a WHEN (INT a) 1", 20);
        syntax("CASE a WHEN (INT):1", 16);
        syntax("CASE a WHEN (INT a):1;2", 21);
        Check.good("FOR i FROM 1 BY 1 TO 2 WHILE TRUE DO 1 OD");
        syntax("FROM 1 FOR i DO 1 OD", 7);
        syntax("TO 1 FROM 1 DO 1 OD", 5);
        syntax("FOR 1 DO 1 OD", 4);
        syntax("DO 1 END", 5);
        syntax("DO OD", 3);
        syntax("PRINT 1", 6);
        syntax("PRINT()", 6);
        syntax("PRINT(1,2)", 7);
        syntax("PRINT(1;2)", 7);
    }

    private static void declarers() {
        syntax("REF", 3);
        syntax("REF 1", 4);
        syntax("[1]INT", 1);
        syntax("[1:2]INT a=1;1", 1);
        syntax("LOC[1]INT a;1", 5);
        syntax("LOC[1:2]1", 8);
        Check.good("LOC[1:2]INT a;LOC[1:2][]INT;HEAP[1:2]REF INT;1");
        syntax("LOC[][1:2]INT a;1", 6);
        syntax("LOC REF[1:2]INT a;1", 8);
        syntax("STRUCT(INT)(1);1", 10);
        syntax("STRUCT()a=1;1", 7);
        syntax("UNION(INT a)b=1;1", 10);
        syntax("PROC()INT a=1;1", 5);
        syntax("PROC(INT a)INT b=1;1", 9);
        syntax("PROC 1", 5);
        Check.good("PROC(INT)INT a=SKIP;PROC VOID b=SKIP;1");
    }

    private static void counts() {
        Check.good(many("1;", 39) + "1");
        syntax(many("1;", 40) + "1", 80);
        syntax(many("1;", 40), 80);
        Check.good("(" + many("1;", 39) + "1)");
        syntax("(" + many("1;", 40) + "1)", 81);
        syntax("MODE A=INT;" + many("1;", 39) + "1", 89);
        Check.good("PROC(INT,INT,INT,INT,INT,INT,INT,INT)INT f=SKIP;f(1,1,1,1,1,1,1,1)");
        syntax("f(" + many("1,", 8) + "1)", 18);
        Check.good("[]INT a=(" + many("1,", 7) + "1);1");
        syntax("(" + many("1,", 8) + "1)", 17);
        syntax("(" + many("1,", 8) + ")", 17);
        Check.good("CASE 1 IN " + many("1,", 7) + "1 ESAC");
        syntax("CASE 1 IN " + many("1,", 8) + "1 ESAC", 26);
        String choices = many("(INT a):1,", 7);
        Check.good("CASE UNION(INT,BOOL)(1)WHEN " + choices + "(INT a):1 ESAC");
        syntax("CASE UNION(INT,BOOL)(1)WHEN " + choices + "(INT a):1,(INT a):1 ESAC", 108);
        syntax("(INT a,INT b,INT c,INT d,INT e,INT f,INT g,INT h,INT i)INT:1", 49);
        syntax("LOC STRUCT(INT a,INT b,INT c,INT d,INT e,INT f,INT g,INT h,INT i)x;1", 59);
        syntax("LOC UNION(INT,INT,INT,INT,INT,INT,INT,INT,INT)x;1", 42);
        syntax("LOC PROC(INT,INT,INT,INT,INT,INT,INT,INT,INT)INT x;1", 41);
    }

    private static void openings() {
        nested("(", 1, "1", ")", 24);
        nested("BEGIN ", 6, "1", " END", 24);
        nested("IF TRUE THEN ", 13, "1", " FI", 24);
        nested("CASE ", 5, "1", " IN 1,2 ESAC", 24);
        nested("DO ", 3, "1", " OD", 24);
        nested("-", 1, "1", "", 24);
        nested("INT:", 4, "1", "", 24, 3);
        nested("LOC INT:=", 9, "1", "", 24);
        nested("REF ", 4, "INT(SKIP)", "", 24);
        nested("PROC ", 5, "INT(SKIP)", "", 24);
        nested("[]", 2, "INT(SKIP)", "", 24);
        syntax("p OF " + many("p OF ", 23) + "p OF a", 24 * 5 + 2);
        syntax(many("TO 1 DO ", 24) + "TO 1 DO 1", 24 * 8);
        Check.good("INT a=" + many("(", 23) + "1" + many(")", 23) + ";1");
        syntax("INT a=" + many("(", 24) + "1" + many(")", 24) + ";1", 29);
        syntax("MODE A=" + many("REF ", 24) + "INT;1", 7 + 23 * 4);
        syntax("LOC " + many("REF ", 24) + "INT;1", 4 + 23 * 4);
        Check.good(many("(", 24) + "1" + many(")", 24) + ";" + many("(", 24) + "1" + many(")", 24));
        syntax(many("(", 24) + "INT a=1;a" + many(")", 24), 29);
        syntax(many("(", 24) + "PRIO A=1;1" + many(")", 24), 30);
        syntax(many("(", 24) + "LOC INT a;a" + many(")", 24), 24);
    }

    private static void nested(String before, int length, String middle, String behind, int most) {
        nested(before, length, middle, behind, most, 0);
    }

    /* So many are right, one more is refused where it opens. */
    private static void nested(String before, int length, String middle, String behind, int most, int at) {
        String right = Check.fault(many(before, most) + middle + many(behind, most));
        Check.due(before + " so many times", right.startsWith("1 "), false);
        syntax(many(before, most + 1) + middle + many(behind, most + 1), most * length + at);
    }
}
