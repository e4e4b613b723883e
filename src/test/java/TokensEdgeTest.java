/** Term 1, sentence by sentence: how long a text and its tokens may be, what is KEPT, SIGNS and PRIORITIES. */
public final class TokensEdgeTest {
    private static final String[] KEPT = ("MODE PRIO OP LOC HEAP SKIP IS ISNT NIL LWB UPB OF LONG TRUE FALSE BEGIN END IF THEN "
            + "ELSE FI CASE IN OUT ESAC WHEN FOR FROM BY TO WHILE DO OD PRINT INT BOOL VOID REF PROC STRUCT UNION").split(" ");
    private static final String[] SIGNS = {"!", "&", "=", "/=", "<", "<=", ">", ">=", "+", "-", "*", "/", "%"};
    private static final int[] PRIORITIES = {2, 3, 4, 4, 5, 5, 5, 5, 6, 6, 7, 7, 7};

    private TokensEdgeTest() {
    }

    public static void main(String[] args) {
        texts();
        blanks();
        letters();
        boldWords();
        keptWords();
        tags();
        numbers();
        longestSigns();
        behindNoToken();
        monadicAndDyadic();
        priorities();
        rankedIndicants();
        Check.end();
    }

    private static void texts() {
        AlgolHouse house = new AlgolHouse();
        Check.type(house, " ".repeat(472));
        Check.due("472 and 8", house.type(0x3120202020202020L), 480);
        Check.due("and one more", house.type(0x31), -1);
        Check.due("and eight more", house.type(0x3131313131313131L), -1);
        Check.due("none came", house.type(0), 480);
        Check.due("480 bytes are read", house.read(), 0);
        Check.due("the last byte counts", house.node(0, 1, 1), 479);
        Check.due("the text is empty then", house.type(0x31), 1);
        Check.due("it is read anew", house.read(), 1);
        Check.due("nothing of the old text is in it", house.node(1, 1, 1), 0);
        Check.faulty(" ".repeat(480), 1, 480);
        Check.faulty(" ".repeat(479) + "(", 1, 480);
        Check.faulty(" ".repeat(479) + "a", 3, 479);
        String full = "1" + ";1".repeat(39) + " ".repeat(400) + "$";
        Check.due("480 bytes", full.length(), 480);
        Check.faulty(full, 1, 479);
    }

    private static void blanks() {
        Check.good("  1  ");
        Check.good("INT  a  =  1  ;  a");
        Check.good("(INT a)INT:a");
        for (int other = 1; other < 256; other++) {
            boolean letter = Character.isLetterOrDigit(other) && other < 128;
            if (!letter && " ()[],;:+-*/%&!~=<>".indexOf(other) < 0) {
                Check.faulty("1;" + (char) other + "1", 1, 2);
                Check.faulty("1 " + (char) other, 1, 2);
            }
        }
    }

    private static void letters() {
        for (char c = 'A'; c <= 'Z'; c++) {
            Check.good("MODE " + c + "=INT;" + c + " a=1;a");
            Check.good("MODE A" + c + "=INT;A" + c + "(1)");
            char small = (char) (c + 32);
            Check.good("INT " + small + "=1;" + small);
            Check.good("INT a" + small + "=1;a" + small);
        }
        for (char c = '0'; c <= '9'; c++) {
            Check.good("INT a" + c + "=1;a" + c);
            Check.prints("PRINT(" + c + ");PRINT(1" + c + ")", "I" + c + " I1" + c);
        }
    }

    private static void boldWords() {
        Check.good("MODE ABCDEFGH=INT;ABCDEFGH a=1;a");
        Check.syntaxAt("MODE |ABCDEFGHI=INT;1");
        Check.syntaxAt("1;|ABCDEFGHI 1");
        Check.syntaxAt("|INTINTINT a=1;a");
        Check.syntaxAt("1 |BEGINBEGIN");
        Check.faultyAt(6, "|INTX 1");
        Check.faultyAt(6, "|IFX 1");
        Check.faultyAt(6, "1 |ISX 1");
        Check.good("BEGIN1END;IF1=1THEN2FI");
        Check.good("OP ABCDEFGH=(INT a)INT:a;ABCDEFGH 1");
        Check.faultyAt(6, "OP ABCDEFGH=(INT a)INT:a;|ABCDEFGI 1");
        Check.faultyAt(6, "OP ABCDEFGH=(INT a)INT:a;|ABCDEFG 1");
        Check.faultyAt(6, "OP ABCDEFGH=(INT a)INT:a;|BBCDEFGH 1");
    }

    /* Each word that stands in the grammar as a token is KEPT, so it is no INDICANT; no other one is. */
    private static void keptWords() {
        Check.due("the grammar's words", KEPT.length, 41);
        for (String word : KEPT) {
            Check.syntaxAt("MODE |" + word + "=INT;1");
            Check.syntaxAt("PRIO |" + word + "=1;1");
            Check.syntaxAt("OP |" + word + "=(INT a)INT:a;1");
            Check.good("MODE " + word + "X=INT;" + word + "X(1)");
            if (word.length() > 2) {
                String shorter = word.substring(0, word.length() - 1);
                boolean kept = java.util.List.of(KEPT).contains(shorter);
                if (!kept) {
                    Check.good("OP " + shorter + "=(INT a)INT:a;" + shorter + " 1");
                }
            }
        }
        Check.good("MODE LENG=INT;LENG a=1;a");
        Check.good("OP SHORTEN=(BOOL a)INT:1;SHORTEN TRUE;SHORTEN LONG 1");
        Check.faultyAt(6, "1 |AND 2");
        Check.faultyAt(6, "1 |AT 2");
    }

    private static void tags() {
        Check.good("INT a2345678=1;a2345678");
        Check.good("INT abcdefgh=1;abcdefgh");
        Check.syntaxAt("INT |abcdefghi=1;1");
        Check.syntaxAt("INT |a23456789=1;1");
        Check.syntaxAt("1;|abcdefghijklmnop");
        Check.faultyAt(3, "INT abcdefgh=1;|abcdefgi");
        Check.faultyAt(3, "INT abcdefgh=1;|abcdefg");
        Check.faultyAt(3, "INT abcdefgh=1;|bbcdefgh");
        Check.faultyAt(3, "INT a1=1;|a2");
        Check.syntaxAt("INT |1a=1;1");
        Check.syntaxAt("1|a");
        Check.syntaxAt("INT a=1;a|INT(1)");
        Check.syntaxAt("1;aaA|");
    }

    private static void numbers() {
        Check.prints("PRINT(2147483647)", "I2147483647");
        Check.syntaxAt("PRINT(|2147483648)");
        Check.syntaxAt("PRINT(|9999999999)");
        Check.syntaxAt("PRINT(|4294967297)");
        Check.prints("PRINT(0000000007)", "I7");
        Check.syntaxAt("PRINT(|00000000007)");
        Check.syntaxAt("PRINT(|00000000000000000000)");
        Check.syntaxAt("PRINT(|18446744073709551617)");
        Check.prints("PRINT(LONG 2147483647)", "L2147483647");
        Check.syntaxAt("PRINT(LONG |2147483648)");
        Check.prints("PRINT(0);PRINT(0000000000)", "I0 I0");
    }

    private static void longestSigns() {
        Check.good("LOC INT a;a:=1");
        Check.syntaxAt("LOC INT a;a|: =1");
        Check.syntaxAt("LOC INT a;a:=|=1");
        Check.good("1/=2;1<=2;1>=2");
        Check.syntaxAt("1/ |=2");
        Check.syntaxAt("1< |=2");
        Check.syntaxAt("1> |=2");
        Check.syntaxAt("1<|>2");
        Check.syntaxAt("1=|=2");
        Check.syntaxAt("1<=|=2");
        Check.syntaxAt("1=|<2");
        Check.syntaxAt("1+|=2");
        Check.syntaxAt("1<=|");
        Check.syntaxAt("1>=|");
        Check.syntaxAt("1/=|");
        Check.syntaxAt("1:=|");
        Check.syntaxAt("1<|");
        Check.good("OP <==(INT a,INT b)INT:1;OP ==(INT a,INT b)INT:1;OP /==(INT a,INT b)INT:1;1");
        Check.good("OP < =(INT a,INT b)INT:1;OP / =(INT a,INT b)INT:1;1");
        Check.syntaxAt("OP <=|(INT a,INT b)INT:1;1");
        Check.syntaxAt("OP /=|(INT a,INT b)INT:1;1");
        Check.prints("PRINT(1--1);PRINT(1- -1);PRINT(1+-1)", "I2 I2 I0");
        Check.prints("LOC[1:1]INT a;a[1]:=-2;PRINT(a[1])", "I-2");
    }

    /* As an operation's INDICANT A lets what stands there pass; as a MODE'S it would be refused earlier, or later. */
    private static void behindNoToken() {
        Check.syntaxAt("A a;|$MODE A=INT;1");
        Check.syntaxAt("A a|;MODE A$=INT;1");
        Check.syntaxAt("A a|;MODE A=INT$;1");
        Check.syntaxAt("A a;MODE |$A=INT;1");
        Check.syntaxAt("A a;|abcdefghi MODE A=INT;1");
        Check.syntaxAt("A a;|ABCDEFGHI MODE A=INT;1");
        Check.syntaxAt("A a;|2147483648 MODE A=INT;1");
        Check.syntaxAt("A a|;MODE B=INT;MODE A=INT;1");
        Check.syntaxAt("A a|;(MODE A=INT;1)");
        Check.syntaxAt("1;PRIO |A=1;MODE A=INT;1");
        Check.syntaxAt("1;PRIO A=1;|$MODE A=INT;1");
        Check.syntaxAt("OP |A=(INT a)INT:1;MODE A=INT;1");
        Check.syntaxAt("OP A=(INT a)INT:1;|$MODE A=INT;1");
    }

    private static void monadicAndDyadic() {
        for (String sign : SIGNS) {
            boolean monadic = sign.equals("+") || sign.equals("-");
            Check.due(sign + " of two", Check.fault("1 " + sign + " 1").startsWith("1 "), false);
            if (monadic) {
                Check.good(sign + "1");
            } else {
                Check.syntaxAt("1;|" + sign + " 1");
                Check.syntaxAt("1+|" + sign + " 1");
            }
        }
        Check.good("~TRUE;~ ~TRUE");
        Check.syntaxAt("TRUE|~TRUE");
        Check.good("OP A=(INT a)INT:a;OP A=(INT a,INT b)INT:a;A 1;1 A 1;1 A A A 1");
        Check.good("1+-+-1;TRUE& ~FALSE");
        Check.good("1=~TRUE;OP ==(INT a,BOOL b)INT:1;1");
    }

    /* Of two SIGNS the root is the second, unless that one binds closer; equal ones group from the left. */
    private static void rootIs(String before, String one, String other, boolean secondIsRoot) {
        AlgolHouse house = new AlgolHouse();
        String left = before + "1 " + one + " 2 ";
        String text = left + other + " 3";
        Check.due("fault of " + text, Check.read(house, text) + " " + house.fault(0) + " " + house.fault(1), "0 0 -1");
        int root = house.nodes(0) - 5;
        int place = secondIsRoot ? left.length() : before.length() + 2;
        Check.due("root of " + text, house.node(0, root, 0) + " " + house.node(0, root, 1), "10 " + place);
    }

    private static String op(String sign) {
        return "OP " + sign + " =(INT a,INT b)INT:1;";
    }

    private static void priorities() {
        for (int i = 0; i < SIGNS.length; i++) {
            for (int j = 0; j < SIGNS.length; j++) {
                rootIs(op(SIGNS[i]) + op(SIGNS[j]), SIGNS[i], SIGNS[j], PRIORITIES[j] <= PRIORITIES[i]);
            }
        }
        Check.prints("PRINT(10-2-3);PRINT(2-3*2);PRINT(100/5/2);PRINT(7%4*2);PRINT(-2*3)", "I5 I-4 I10 I6 I-6");
    }

    private static void rankedIndicants() {
        for (int j = 0; j < SIGNS.length; j++) {
            String two = op("A") + op(SIGNS[j]);
            rootIs(two, "A", SIGNS[j], PRIORITIES[j] <= 5);
            rootIs(two, SIGNS[j], "A", 5 <= PRIORITIES[j]);
            for (int rank = 1; rank <= 9; rank++) {
                String ranked = "PRIO A=" + rank + ";" + two;
                rootIs(ranked, "A", SIGNS[j], PRIORITIES[j] <= rank);
                rootIs(ranked, SIGNS[j], "A", rank <= PRIORITIES[j]);
            }
        }
        rootIs("PRIO A=9;PRIO B=1;" + op("A") + op("B"), "A", "B", true);
        rootIs("PRIO A=9;PRIO B=1;" + op("A") + op("B"), "B", "A", false);
        rootIs("PRIO A=9;" + op("A") + op("B"), "B", "A", false);
        rootIs("PRIO A=9;" + op("A") + op("B"), "B", "B", true);
        rootIs("(PRIO A=9;1);" + op("A"), "+", "A", false);
        Check.faultyAt(2, "PRIO A=1;PRIO |A=9;1");
        Check.prints("OP A=(INT a,INT b)INT:a-b;PRINT(9 A 2*3);PRIO A=8;1", "I21");
        Check.prints("OP A=(INT a,INT b)INT:a-b;PRINT(9 A 2*3);1", "I3");
        Check.prints("OP A=(INT a,INT b)INT:a-b;PRINT(9 A 2 A 3)", "I4");
        Check.prints("OP A=(INT a)INT:a+1;PRINT(A 2*3);PRIO A=1;1", "I9");
    }
}
