import java.util.Random;

/** What holds of all texts: no call throws by itself, limits are kept, and every run is one of all orders. */
public final class SoundTest {
    private static final String[] WORDS = ("MODE PRIO OP LOC HEAP SKIP IS ISNT NIL LWB UPB OF LONG TRUE FALSE BEGIN END IF "
            + "THEN ELSE FI CASE IN OUT ESAC WHEN FOR FROM BY TO WHILE DO OD PRINT INT BOOL VOID REF PROC STRUCT UNION "
            + "( ) [ ] , ; : := + - * / % & ! ~ = /= < <= > >= a b x 1 2 A ADD $ 3 ( ) ( ) a 1 ; ; INT").split(" ");
    private static final String[] TEXTS = {
        "LOC INT a:=1;PROC INT f=INT:(a:=a+1;a);PRINT(f+a*f)",
        "LOC INT a:=1;PROC INT f=INT:(a:=a*3;a);PRINT(f-a);PRINT(a-f)",
        "LOC INT a:=1;PRINT((a:=2;[]INT(a))[a])",
        "LOC REF INT r;PROC REF INT f=REF INT:(r:=NIL;HEAP INT);r:=HEAP INT:=4;f:=r;1",
        "FROM(PRINT(1);1)BY(PRINT(2);2)TO(PRINT(3);3)DO PRINT(4)OD",
        "LOC INT n:=2;[]INT a=((n:=n-1;6/n),(n:=n-1;n));PRINT(a[1]);PRINT(a[2])",
    };

    private static final String[] SORTS = {"0 1 2 3 4 5 7 9 63 64 65 300 2147483647", "+ - * / % < <= > >= = /=", "INT LONG BOOL",
        "LOC HEAP", "a b c d f g i k n p q r s t u x", "IS ISNT", "LWB UPB", "TRUE FALSE", "NIL SKIP", "FROM BY TO"};
    /* Programs, with blanks between their tokens: what is changed a little often is a program still. */
    private static final String[] WHOLE = {
        "MODE A = STRUCT ( INT a , REF A b ) ; LOC A c := ( 1 , NIL ) ; LOC A d := ( 2 , c ) ; a OF b OF d := 2 ; a OF c",
        "OP P = ( INT a , INT b ) INT : a * ( b + 1 ) ; OP ~ = ( INT a ) INT : - a ; PRINT ( 1 P ~ 2 ) ; PRIO P = 3 ; 1 + 2 P 3",
        "PROC ( INT , [ ] INT ) INT f = ( INT n , [ ] INT r ) INT : r [ n ] ; PRINT ( f ( 2 , ( 1 , 2 ) ) ) ; f ( 1 , 1 )",
        "MODE U = UNION ( INT , BOOL ) ; LOC U u := TRUE ; u := 3 ; CASE u WHEN ( INT i ) : PRINT ( i ) , ( BOOL b ) : 2 ESAC",
        "CASE 1 + 1 IN 1 , SKIP , ( 3 ; 4 ) OUT 5 ESAC ; IF TRUE THEN PRINT ( 1 ) FI ; LOC INT n := 0 ; n := n + 1 ; PRINT ( n )",
        "FOR i FROM 1 BY 2 TO 9 WHILE i < 7 DO LOC INT k := i ; k := k * k ; PRINT ( k ) OD ; BEGIN INT a = 1 ; PRINT ( a ) END",
        "LOC [ 1 : 4 ] INT a ; FOR i TO UPB a DO a [ i ] := i * i OD ; [ ] INT b = a [ 2 : 3 ] ; PRINT ( b [ 1 ] ) ; a := b ; a",
        "LOC REF INT r ; LOC INT x := 4 ; r := x ; PRINT ( r ) ; x IS r ; NIL ISNT r ; REF INT ( r ) := 5 ; LONG l = x ; l",
        "PROC ( INT ) INT f = ( INT n ) INT : IF n < 2 THEN 1 ELSE n * f ( n - 1 ) FI ; PRINT ( f ( 5 ) ) ; PRINT ( f ( 3 ) )",
        "STRUCT ( INT p , [ ] INT q ) s = ( 1 , ( 4 , 5 ) ) ; LOC STRUCT ( INT p , [ ] INT q ) t := s ; p OF t := 7 ; q OF t",
        "LOC INT a := 1 ; LOC INT b := 2 ; PROC INT f = INT : ( a := a + b ; a ) ; PRINT ( f * b + f ) ; ( b := 5 ; b ) - f"};
    private static int calls;

    private SoundTest() {
    }

    public static void main(String[] args) {
        soup();
        changed();
        runsAreOrders();
        sameAgain();
        Check.end();
    }

    private static String soup(Random random) {
        StringBuilder text = new StringBuilder();
        int words = 1 + random.nextInt(random.nextBoolean() ? 7 : 50);
        for (int i = 0; i < words; i++) {
            String word = WORDS[random.nextInt(WORDS.length)];
            boolean runsOn = text.length() > 0 && Character.isLetterOrDigit(text.charAt(text.length() - 1));
            text.append(runsOn && Character.isLetterOrDigit(word.charAt(0)) ? " " : "").append(word);
        }
        return text.length() > 480 ? text.substring(0, 480) : text.toString();
    }

    /* An object has 512 calls; a text takes no more than some 440 of them, most take few. */
    private static void soup() {
        Random random = new Random(68);
        AlgolHouse used = new AlgolHouse();
        int programs = 0;
        for (int i = 0; i < 40000; i++) {
            String text = soup(random);
            used = calls > 64 ? new AlgolHouse() : used;
            calls = calls > 64 ? 0 : calls;
            programs += usedWell(used, text, random) ? 1 : 0;
        }
        Check.due("some are programs", programs > 100, true);
    }

    private static boolean usedWell(AlgolHouse house, String text, Random random) {
        String answer = Check.answer(() -> useAll(house, text, random));
        Check.due("all calls of " + text, answer.equals("true") || answer.equals("false"), true);
        return answer.equals("true");
    }

    /* Another token, mostly of the same sort. */
    private static String other(String token, Random random) {
        if (random.nextInt(8) == 0) {
            return WORDS[random.nextInt(WORDS.length)];
        }
        for (String sort : SORTS) {
            String[] words = sort.split(" ");
            if (java.util.List.of(words).contains(token)) {
                return words[random.nextInt(words.length)];
            }
        }
        return token;
    }

    /* Programs in which some tokens are exchanged for others; now and then one goes, or comes twice. */
    private static void changed() {
        Random random = new Random(1968);
        int programs = 0;
        for (int i = 0; i < 12000; i++) {
            String[] tokens = WHOLE[i % WHOLE.length].split(" ");
            for (int changes = 1 + random.nextInt(4); changes > 0; changes--) {
                int at = random.nextInt(tokens.length);
                String what = tokens[at];
                int way = random.nextInt(12);
                tokens[at] = way == 0 ? "" : way == 1 ? what + " " + what : other(what, random);
            }
            programs += usedWell(new AlgolHouse(), String.join(" ", tokens), random) ? 1 : 0;
        }
        Check.due("many are programs", programs > 1000, true);
    }

    private static boolean useAll(AlgolHouse house, String text, Random random) {
        int p = Check.read(house, text);
        calls += text.length() / 8 + 12 + (p < 0 ? 0 : 6 * house.nodes(p));
        if (p < 0) {
            Check.due("a fault of " + text, house.fault(0) >= 1 && house.fault(0) <= 6 && house.fault(1) >= 0
                    && house.fault(1) <= text.length(), true);
            return false;
        }
        for (int k = 0; k < house.nodes(p); k++) {
            int walk = random.nextInt();
            Check.due("mode and parts", house.mode(p, k, walk) < 0, house.parts(p, k, walk) < 0);
            Check.due("one", house.one(p, k, p, k), house.mode(p, k, 0) >= 0);
            house.one(p, k, 0, 0);
            house.meant(p, k);
            house.step(p, k, random.nextInt());
        }
        int steps = 1 + random.nextInt(3000);
        house.run(p, random.nextLong(), steps);
        Check.due("limits of " + text, house.ran(2) <= steps && house.ran(3) <= 300 && house.ran(4) <= 40
                && house.told() <= 200, true);
        house.orders(p, steps, 1 + random.nextInt(200));
        if (house.programs() == 6) {
            house.clear();
        }
        return true;
    }

    private static String outcome(AlgolHouse house, int i) {
        StringBuilder all = new StringBuilder(house.outcome(i, 0) + " " + house.outcome(i, 1));
        for (int j = 0; j < house.outcome(i, 2); j++) {
            all.append(' ').append(house.outcomes(i, j));
        }
        return all.toString();
    }

    private static String latest(AlgolHouse house) {
        StringBuilder all = new StringBuilder(house.ran(0) + " " + house.ran(1));
        for (int j = 0; j < house.told(); j++) {
            all.append(' ').append(house.number(j));
        }
        return all.toString();
    }

    private static void runsAreOrders() {
        for (String text : TEXTS) {
            AlgolHouse house = new AlgolHouse();
            Check.due("a program: " + text, Check.read(house, text), 0);
            int count = house.orders(0, 3000, 200);
            Check.due("outcomes of " + text, count > 1, true);
            StringBuilder all = new StringBuilder("|");
            for (int i = 0; i < count; i++) {
                all.append(outcome(house, i)).append('|');
            }
            for (int seed = -20; seed <= 20; seed++) {
                house.run(0, seed, 3000);
                Check.due(latest(house) + " in " + all + " of " + text, all.indexOf("|" + latest(house) + "|") >= 0, true);
            }
        }
    }

    private static void sameAgain() {
        for (String text : TEXTS) {
            for (int seed = 0; seed < 9; seed++) {
                Check.due("the same again: " + text, Check.run(text, seed, 3000), Check.run(text, seed, 3000));
            }
        }
    }
}
