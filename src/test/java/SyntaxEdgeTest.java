/** Term 2, sentence by sentence: what may open within 24, so many of each, OP'S parameters, texts that end too early. */
public final class SyntaxEdgeTest {
    private static final int OPEN_MOST = 24;
    private static final String[] DYADIC_ALONE = {"*", "/", "%", "&", "!", "=", "/=", "<", "<=", ">", ">="};
    private static final String[] BOTH = {"+", "-", "A", "LENG"};
    /* Texts of all kinds, each with a blank between two tokens. */
    private static final String[] WHOLE = {
        "MODE A = STRUCT ( INT a , REF A b ) ; LOC A c := ( 1 , NIL ) ; a OF b OF c := 2",
        "PRIO P = 3 ; OP P = ( INT a , INT b ) INT : a * ( b + 1 ) ; OP ~ = ( INT a ) INT : - a ; PRINT ( 1 P ~ 2 )",
        "PROC ( INT , [ ] INT ) INT f = ( INT n , [ ] INT r ) INT : r [ n ] ; f ( 1 , ( 1 , 2 ) ) ; PROC INT g = INT : 1 ; g",
        "UNION ( INT , BOOL ) u = TRUE ; CASE u WHEN ( INT i ) : i , ( BOOL b ) : 2 OUT 3 ; 4 ESAC",
        "CASE 1 ; 2 IN 1 , SKIP , ( 3 ; 4 ) OUT 5 ESAC ; IF TRUE ; FALSE THEN 1 ; 2 ELSE 3 FI",
        "FOR i FROM 1 BY 2 TO 3 WHILE TRUE ; i < 3 DO PRINT ( i ) ; SKIP OD ; BEGIN 1 ; 2 END",
        "LOC [ 1 : 2 ] INT a ; HEAP [ ] BOOL b ; LWB a + UPB a [ 1 : 2 ] ; LOC [ 1 : 2 ] INT ; [ ] INT ( a )",
        "LOC REF INT r ; r IS NIL ; NIL ISNT r ; LONG ( 1 ) ; LONG 1 ; LONG l = LONG 2 ; VOID ( r )",
        "[ ] INT e = ( ) ; LOC INT x := 1 ; INT ( x := 2 ) ; 1",
    };

    private SyntaxEdgeTest() {
    }

    public static void main(String[] args) {
        openings();
        openingsOfDeclarers();
        openingsOfDeclarations();
        endedOpenings();
        serials();
        ninth();
        ranks();
        parametersOfOperations();
        tooEarly();
        beginsWithDeclarer();
        secondaries();
        lists();
        Check.end();
    }

    /* The mark is at the token that opens the deepest, as so many: within parentheses all 24 are right, one more isn't. */
    private static void opens(int deep, String marked) {
        String text = Check.plain(marked);
        String open = "(".repeat(OPEN_MOST - deep);
        String close = ")".repeat(OPEN_MOST - deep);
        Check.due("24 deep: " + text, Check.fault(open + text + close).startsWith("1 "), false);
        Check.faulty(open + "(" + text + ")" + close, 1, open.length() + 1 + Check.mark(marked));
    }

    private static void openings() {
        String[] one = {"|(1)", "|(1;2)", "|(1,2)", "|()", "|BEGIN 1 END", "|IF TRUE THEN 1 FI", "|IF TRUE THEN 1 ELSE 2 FI",
            "|CASE 1 IN 1,2 ESAC", "|CASE 1 IN 1,2 OUT 3 ESAC", "|FOR i DO 1 OD", "|FROM 1 DO 1 OD", "|BY 1 DO 1 OD",
            "|TO 1 DO 1 OD", "|WHILE TRUE DO 1 OD", "|DO 1 OD", "|FOR i FROM 1 BY 1 TO 1 WHILE FALSE DO 1 OD",
            "PRINT|(1)", "INT|(1)", "f|(1)", "f|(1,2)", "a|[1]", "a|[1:2]", "a|:=1", "a |IS b", "a |ISNT b", "a |IS NIL",
            "p |OF a", "|LWB a", "|UPB a", "|-1", "|+1", "|~a", "|LENG 1", "|A 1", "INT|:1", "VOID|:SKIP", "|(INT a)INT:1"};
        for (String marked : one) {
            opens(1, marked);
        }
        String[] two = {"(|(1))", "BEGIN|(1)END", "IF|(TRUE)THEN 1 FI", "IF TRUE THEN|(1)FI", "IF TRUE THEN 1 ELSE|(1)FI",
            "CASE|(1)IN 1,2 ESAC", "CASE 1 IN|(1),2 ESAC", "CASE 1 IN 1,|(2)ESAC", "CASE 1 IN 1,2 OUT|(3)ESAC",
            "FROM|(1)DO 1 OD", "FOR i BY|(1)DO 1 OD", "FOR i TO|(1)DO 1 OD", "TO 1 WHILE|(TRUE)DO 1 OD", "TO 1 DO|(1)OD",
            "PRINT(|(1))", "INT(|(1))", "f(|(1))", "f(1,|(1))", "a[|(1)]", "a[|(1):2]", "a[1:|(2)]", "a:=|(1)", "a:=b|:=1",
            "a IS|(b)", "a ISNT|(b)", "p OF|(a)", "p OF q |OF a", "LWB|(a)", "LWB |UPB a", "UPB |LWB a", "-|(1)", "-|-1",
            "-|A 1", "INT:|(1)", "INT:INT|:1", "(|(1),2)", "(1,|(2))", "(|-1,2)", "CASE u WHEN|(INT i):1 ESAC"};
        for (String marked : two) {
            opens(2, marked);
        }
        opens(3, "CASE u WHEN(INT i):|(1)ESAC");
        opens(3, "CASE u WHEN(INT i):|-1 ESAC");
        opens(3, "CASE u WHEN(INT i):1,(INT j):|-1 ESAC");
        opens(3, "CASE u WHEN(|REF INT i):1 ESAC");
        opens(3, "INT:-|-1");
    }

    private static void openingsOfDeclarers() {
        String[] one = {"|REF INT(SKIP)", "|PROC INT(SKIP)", "|PROC VOID(SKIP)", "|[]INT(SKIP)", "STRUCT|(INT a)(SKIP)",
            "UNION|(INT,BOOL)(SKIP)", "|LOC INT", "|HEAP INT", "|LOC INT:=1", "|REF INT:SKIP"};
        for (String marked : one) {
            opens(1, marked);
        }
        String[] two = {"REF |REF INT(SKIP)", "REF|[]INT(SKIP)", "REF |PROC INT(SKIP)", "PROC|(INT)INT(SKIP)",
            "PROC |REF INT(SKIP)", "PROC |PROC INT(SKIP)", "PROC|[]INT(SKIP)",
            "[]|REF INT(SKIP)", "[]|[]INT(SKIP)", "STRUCT(|REF INT a)(SKIP)", "STRUCT(INT a,|REF INT b)(SKIP)",
            "UNION(|REF BOOL,INT)(SKIP)", "UNION(BOOL,|REF INT)(SKIP)", "LOC |REF INT", "HEAP |REF INT", "LOC|[]INT",
            "LOC|[1:2]INT", "HEAP|[1:2]INT", "(|REF INT a)INT:1", "(INT b,|REF INT a)INT:1"};
        for (String marked : two) {
            opens(2, marked);
        }
        opens(1, "|(INT a)REF INT:1");
        opens(2, "PROC|(INT)REF INT(SKIP)");
        opens(3, "PROC(INT)REF |REF INT(SKIP)");
        opens(3, "PROC(|REF INT)INT(SKIP)");
        opens(3, "LOC[|(1):2]INT");
        opens(3, "LOC[1:|-2]INT");
        opens(3, "LOC[1:2]|REF INT");
        opens(3, "HEAP[1:2]|[]INT");
        opens(3, "LOC REF|[]INT");
        opens(2, "(INT a)REF |REF INT:1");
        opens(3, "STRUCT(STRUCT(|REF INT a)b)(SKIP)");
    }

    /* LOC and HEAP open for their DECLARER; := and = for their UNIT. */
    private static void openingsOfDeclarations() {
        String[] two = {"(INT a|=1;a)", "(MODE A|=INT;1)", "(PRIO A|=1;1)", "(|LOC INT a;1)",
            "(|HEAP INT a;1)", "(|LOC INT a:=1;1)", "(|REF INT a=NIL;1)", "(1;INT a|=1;a)"};
        for (String marked : two) {
            opens(2, marked);
        }
        String[] three = {"(INT a=|-1;a)", "(MODE A=|REF INT;1)", "(OP A=|(INT a)INT:1;1)",
            "(LOC |REF INT a;1)", "(LOC|[1:2]INT a;1)", "(LOC INT a:=|-1;1)", "(HEAP INT a:=|(1);1)", "(REF |REF INT a=NIL;1)"};
        for (String marked : three) {
            opens(3, marked);
        }
        Check.syntaxAt("(".repeat(24) + "OP A|=(INT a)INT:1;1" + ")".repeat(24));
        opens(4, "(OP A=(INT a)INT:|(1);1)");
        opens(4, "(LOC[|-1:2]INT a;1)");
        opens(4, "(LOC[1:2]|REF INT a;1)");
        opens(4, "(INT a=INT:|-1;a)");
        opens(5, "(LOC INT a:=(LOC INT b:=|-1;1);1)");
    }

    /* What has ended opens no more: a second one of the same kind may stand beside. */
    private static void endedOpenings() {
        String[] beside = {"(1)+|(1)", "-1+|-1", "a[1]|[1]", "f(1)|(1)", "BEGIN 1 END+|BEGIN 1 END", "a:=1;|a:=1",
            "LOC INT;|LOC INT", "INT:1;INT|:1", "IF TRUE THEN 1 FI;|IF TRUE THEN 1 FI", "DO 1 OD;|DO 1 OD", "p OF a+p |OF a",
            "LWB a+|LWB a", "a IS b;a |IS b", "REF INT(SKIP);|REF INT(SKIP)", "[]INT(SKIP);|[]INT(SKIP)",
            "CASE 1 IN 1,2 ESAC;|(1)", "PROC INT(SKIP);|PROC INT(SKIP)", "UNION(INT,BOOL)(SKIP);UNION|(INT,BOOL)(SKIP)",
            "(INT a)INT:1;|(INT a)INT:1"};
        String open = "(".repeat(OPEN_MOST - 1);
        String close = ")".repeat(OPEN_MOST - 1);
        for (String marked : beside) {
            Check.due("beside: " + marked, Check.fault(open + Check.plain(marked) + close).startsWith("1 "), false);
        }
        String declarations = "LOC INT a:=1;HEAP INT b:=2;INT c=3;MODE M=REF INT;PRIO P=1;OP P=(INT a)INT:1;LOC[1:2]INT d;1";
        String nested = "(".repeat(OPEN_MOST - 2) + declarations + ")".repeat(OPEN_MOST - 2);
        Check.due("declarations", Check.fault(nested).startsWith("1 "), false);
        Check.due("24 twice", Check.fault("(".repeat(24) + "1" + ")".repeat(24) + "+" + "(".repeat(24) + "1" + ")".repeat(24)),
                "0 -1");
        Check.syntaxAt("(".repeat(24) + "1" + ")".repeat(24) + "+" + "(".repeat(24) + "|(1)" + ")".repeat(24));
    }

    /* 40 are right in each SERIAL, the 41st is refused where it begins. */
    private static void serials() {
        String[][] around = {{"", ""}, {"(", ")"}, {"BEGIN ", " END"}, {"IF ", " THEN 1 FI"}, {"IF TRUE THEN ", " FI"},
            {"IF TRUE THEN 1 ELSE ", " FI"}, {"CASE ", " IN 1,2 ESAC"}, {"CASE 1 IN 1,2 OUT ", " ESAC"},
            {"CASE ", " WHEN(INT a):1 ESAC"}, {"WHILE ", " DO 1 OD"}, {"DO ", " OD"}, {"INT(", ")"}, {"1+(", ")"}};
        for (String[] part : around) {
            String forty = part[0] + Check.many("1;", 39) + "1";
            Check.due("40 of " + part[0], Check.fault(forty + part[1]).startsWith("1 "), false);
            Check.faulty(forty + ";1" + part[1], 1, forty.length() + 1);
            Check.faulty(forty + ";INT a=1;1" + part[1], 1, forty.length() + 1);
        }
        String[] declarations = {"INT a=1", "LOC INT a", "MODE A=INT", "PRIO A=1", "OP A=(INT a)INT:1", "HEAP INT a:=1"};
        for (String one : declarations) {
            Check.good(one + ";" + Check.many("1;", 38) + "1");
            Check.syntaxAt(one + ";" + Check.many("1;", 39) + "|1");
            Check.syntaxAt(Check.many("1;", 40) + "|" + one + ";1");
            Check.syntaxAt(Check.many("1;", 39) + one + ";|1");
        }
    }

    private static void eight(String before, String one, String comma, String behind) {
        String text = before + Check.many(one + comma, 7) + one;
        Check.due("eight: " + text + behind, Check.fault(text + behind).startsWith("1 "), false);
        Check.faulty(text + comma + one + behind, 1, text.length() + comma.length());
        Check.faulty(text + comma, 1, text.length() + comma.length());
    }

    private static void ninth() {
        eight("f(", "1", ",", ")");
        eight("f(", "INT:1", " , ", ")");
        eight("(", "1", ",", ")");
        eight("CASE 1 IN ", "1", ",", " ESAC");
        eight("CASE 1 IN ", "1", ",", " OUT 1 ESAC");
        eight("CASE u WHEN", "(INT a):1", ",", "ESAC");
        eight("CASE u WHEN", "(INT a):1", ",", "OUT 1 ESAC");
        eight("(", "INT a", ",", ")INT:1");
        eight("LOC STRUCT(", "INT a", ",", ")x;1");
        eight("LOC UNION(", "INT", ",", ")x;1");
        eight("LOC PROC(", "INT", ",", ")INT x;1");
        eight("PROC(", "INT", ",", ")INT(SKIP)");
    }

    private static void ranks() {
        for (int rank = 1; rank <= 9; rank++) {
            Check.good("PRIO A=" + rank + ";1");
        }
        Check.syntaxAt("PRIO A=|0;1");
        Check.syntaxAt("PRIO A=|10;1");
        Check.syntaxAt("PRIO A=|2147483647;1");
        Check.syntaxAt("PRIO A=|-1;1");
        Check.syntaxAt("PRIO A=|a;1");
        Check.syntaxAt("PRIO A=1|+1;1");
        Check.syntaxAt("PRIO |+=1;1");
        Check.syntaxAt("PRIO |a=1;1");
        Check.syntaxAt("PRIO A|:=1;1");
    }

    private static void parametersOfOperations() {
        for (String sign : DYADIC_ALONE) {
            Check.syntaxAt("OP " + sign + " =(INT a|)INT:1;1");
            Check.good("OP " + sign + " =(INT a,INT b)INT:1;1");
            Check.syntaxAt("OP " + sign + " =(INT a,INT b|,INT c)INT:1;1");
            Check.syntaxAt("OP " + sign + " =|INT:1;1");
        }
        for (String sign : BOTH) {
            Check.good("OP " + sign + " =(INT a)INT:1;1");
            Check.good("OP " + sign + " =(INT a,INT b)INT:1;1");
            Check.syntaxAt("OP " + sign + " =(INT a,INT b|,INT c)INT:1;1");
            Check.syntaxAt("OP " + sign + " =|INT:1;1");
            Check.syntaxAt("OP " + sign + " =|f;1");
        }
        Check.good("OP ~=(INT a)INT:1;1");
        Check.syntaxAt("OP ~=(INT a|,INT b)INT:1;1");
        Check.syntaxAt("OP ~=|INT:1;1");
        Check.syntaxAt("OP +=(|)INT:1;1");
        Check.syntaxAt("OP +=(INT a|=1;a);1");
        Check.syntaxAt("OP +=(|1);1");
        Check.syntaxAt("OP +=(INT a)|1;1");
        Check.syntaxAt("OP +=(INT a)INT|;1");
        Check.syntaxAt("OP |:=(INT a)INT:1;1");
        Check.syntaxAt("OP |a=(INT a)INT:1;1");
        Check.syntaxAt("OP +|(INT a)INT:1;1");
        Check.syntaxAt("OP +=(INT a)INT:1|");
        Check.good("OP +=(INT a,INT b)INT:1;(INT a,INT b,INT c)INT:1");
    }

    /* A text that ends too early can't have its end there; one that has a token too many has that. */
    private static void tooEarly() {
        for (String text : WHOLE) {
            Check.good(text);
            String[] tokens = text.split(" ");
            String prefix = "";
            for (String token : tokens) {
                String fault = Check.fault(prefix);
                if (fault.startsWith("1 ")) {
                    Check.due("place of " + prefix, fault, "1 " + prefix.length());
                }
                Check.faulty(prefix + "$", 1, prefix.length());
                prefix += token + " ";
            }
            Check.faulty(text + " )", 1, text.length() + 1);
            Check.faulty(text + " ]", 1, text.length() + 1);
            Check.faulty(text + " OD", 1, text.length() + 1);
            Check.faulty(text + " , 1", 1, text.length() + 1);
            Check.faulty(text + " ;", 1, text.length() + 2);
        }
        Check.faulty("", 1, 0);
        Check.faulty(" ", 1, 1);
        Check.faulty(";", 1, 0);
        Check.faulty("1;;1", 1, 2);
    }

    private static void beginsWithDeclarer() {
        Check.good("INT a=1;a");
        Check.good("INT(1)");
        Check.good("INT:1");
        Check.syntaxAt("INT|;1");
        Check.syntaxAt("INT|=1;1");
        Check.syntaxAt("INT|[1]");
        Check.syntaxAt("INT |1");
        Check.syntaxAt("1+INT |a=1;1");
        Check.syntaxAt("(1,INT |a=1)");
        Check.syntaxAt("PRINT(INT |a=1)");
        Check.syntaxAt("f(INT |a)");
        Check.syntaxAt("f((INT a)INT:1,INT |b)");
        Check.syntaxAt("LOC INT x:=INT |a=1;1");
        Check.syntaxAt("CASE 1 IN INT |a=1,2 ESAC");
        Check.syntaxAt("a[INT |b=1]");
        Check.good("PROC(PROC INT)INT f=(PROC INT p)INT:p;f(INT:1)");
        Check.good("[]PROC INT a=(INT:1,INT:2);1");
        Check.good("(INT a=1;a)");
        Check.good("(INT a)INT:a");
        Check.good("(INT a,BOOL b)INT:a");
        Check.syntaxAt("(INT a|;a)");
        Check.syntaxAt("(INT a|:=1;a)");
        Check.syntaxAt("(INT a|:1)");
        Check.syntaxAt("(INT a)|;1");
        Check.syntaxAt("(INT a)INT|(1)");
        Check.syntaxAt("(INT a,|1)");
        Check.syntaxAt("(INT a,INT|)INT:1");
        Check.syntaxAt("(INT|)INT:1");
        Check.syntaxAt("1+(INT a|)INT:a");
        Check.syntaxAt("-(INT a|,INT b)INT:a");
        Check.syntaxAt("CASE u WHEN(INT a|=1):1 ESAC");
        Check.syntaxAt("CASE u WHEN(INT a|,INT b):1 ESAC");
        Check.syntaxAt("CASE u WHEN |INT a:1 ESAC");
        Check.good("LOC[INT:1:INT:2]INT;1");
        Check.good("[]INT a=1;a[INT:1]");
        Check.faultyAt(5, "[]INT a=1;a[INT:|TRUE]");
    }

    private static void secondaries() {
        Check.good("STRUCT(INT p)s=SKIP;p OF s;p OF HEAP STRUCT(INT p);p OF p OF HEAP STRUCT(STRUCT(INT p)p)");
        Check.good("LOC[1:2]STRUCT(INT p)s;p OF s[1];-HEAP INT;-p OF s[1];UPB HEAP[1:2]INT+LWB HEAP[1:2]INT");
        Check.syntaxAt("LOC INT|(1)");
        Check.syntaxAt("LOC INT|[1]");
        Check.syntaxAt("HEAP INT |OF a");
        Check.syntaxAt("a(1)|OF b");
        Check.syntaxAt("(a)|OF b");
        Check.syntaxAt("1 |OF b");
        Check.syntaxAt("p OF |-a");
        Check.syntaxAt("p OF |NIL");
        Check.syntaxAt("-|NIL");
        Check.syntaxAt("-|SKIP");
        Check.syntaxAt("1+|SKIP");
        Check.syntaxAt("a IS |SKIP");
        Check.syntaxAt("SKIP |IS a");
        Check.syntaxAt("SKIP|:=1");
        Check.syntaxAt("a IS b |IS c");
        Check.syntaxAt("a IS b|:=c");
        Check.syntaxAt("NIL|+1");
        Check.syntaxAt("NIL|[1]");
        Check.syntaxAt("a:=b |c");
        Check.good("LOC INT a;LOC BOOL b;b:=a IS NIL;a:=SKIP;NIL IS a");
    }

    private static void lists() {
        Check.syntaxAt("CASE 1 IN 1 |ESAC");
        Check.syntaxAt("CASE 1 IN 1 |OUT 2 ESAC");
        Check.syntaxAt("CASE 1 IN |ESAC");
        Check.syntaxAt("CASE 1 IN 1,|ESAC");
        Check.syntaxAt("CASE 1 IN 1,2|;3 ESAC");
        Check.syntaxAt("CASE u WHEN |ESAC");
        Check.syntaxAt("CASE u WHEN(INT a):1,|ESAC");
        Check.syntaxAt("(1,|)");
        Check.syntaxAt("(|,1)");
        Check.syntaxAt("(1,2|;3)");
        Check.syntaxAt("(1;2|,3)");
        Check.syntaxAt("f(|)");
        Check.syntaxAt("f(1|;2)");
        Check.syntaxAt("a[|]");
        Check.syntaxAt("a[1:|]");
        Check.syntaxAt("a[|:1]");
        Check.syntaxAt("a[1|,2]");
        Check.syntaxAt("LOC STRUCT(|)a;1");
        Check.syntaxAt("LOC UNION(|)a;1");
        Check.syntaxAt("LOC PROC(|)INT a;1");
        Check.syntaxAt("BEGIN |END");
        Check.syntaxAt("LOC[1:2][|1:2]INT a;1");
        Check.syntaxAt("LOC[1|]INT a;1");
        Check.syntaxAt("LOC STRUCT([|1:2]INT a)b;1");
        Check.syntaxAt("[|1:2]INT a=1;1");
        Check.syntaxAt("HEAP REF[|1:2]INT a;1");
        Check.syntaxAt("LOC|;1");
        Check.syntaxAt("LOC |a;1");
        Check.syntaxAt("LOC |LOC INT;1");
    }
}
