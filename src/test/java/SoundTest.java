import java.util.Random;

/** What holds of all texts: no call throws by itself, limits are kept, and every run is one of all orders. */
public final class SoundTest {
    private static final String[] WORDS = ("MODE PRIO OP LOC HEAP SKIP IS ISNT NIL LWB UPB OF LONG TRUE FALSE BEGIN END IF "
            + "THEN ELSE FI CASE IN OUT ESAC WHEN FOR FROM BY TO WHILE DO OD PRINT INT BOOL VOID REF PROC STRUCT UNION "
            + "( ) [ ] , ; : := + - * / % & ! ~ = /= < <= > >= a b x 1 2 A ADD $ 3 ( ) ( ) a 1 ; ; INT").split(" ");
    private static final String[] TEXTS = {
        "LOC INT a:=1;PROC INT f=INT:(a:=a+1;a);PRINT(f+a*f)",
        "LOC INT a:=1;PROC INT f=INT:(a:=a*3;a);PRINT(f-a);PRINT(a-f)",
        "LOC INT a:=1;PRINT((a:=2;[]INT(a))[a])",
        "LOC REF INT r;PROC REF INT f=REF INT:(r:=NIL;HEAP INT);r:=HEAP INT:=4;f:=r;1",
        "FROM(PRINT(1);1)BY(PRINT(2);2)TO(PRINT(3);3)DO PRINT(4)OD",
        "LOC INT n:=2;[]INT a=((n:=n-1;6/n),(n:=n-1;n));PRINT(a[1]);PRINT(a[2])",
    };

    private static int calls;

    private SoundTest() {
    }

    public static void main(String[] args) {
        soup();
        runsAreOrders();
        sameAgain();
        Check.end();
    }

    private static String soup(Random random) {
        StringBuilder text = new StringBuilder();
        int words = 1 + random.nextInt(random.nextBoolean() ? 7 : 50);
        for (int i = 0; i < words; i++) {
            String word = WORDS[random.nextInt(WORDS.length)];
            boolean runsOn = text.length() > 0 && Character.isLetterOrDigit(text.charAt(text.length() - 1));
            text.append(runsOn && Character.isLetterOrDigit(word.charAt(0)) ? " " : "").append(word);
        }
        return text.length() > 480 ? text.substring(0, 480) : text.toString();
    }

    /* An object has 512 calls; a text takes no more than some 440 of them, most take few. */
    private static void soup() {
        Random random = new Random(68);
        AlgolHouse used = new AlgolHouse();
        int programs = 0;
        for (int i = 0; i < 40000; i++) {
            String text = soup(random);
            used = calls > 64 ? new AlgolHouse() : used;
            calls = calls > 64 ? 0 : calls;
            AlgolHouse house = used;
            String answer = Check.answer(() -> useAll(house, text, random));
            programs += answer.equals("true") ? 1 : 0;
            Check.due("all calls of " + text, answer.equals("true") || answer.equals("false"), true);
        }
        Check.due("some are programs", programs > 100, true);
    }

    private static boolean useAll(AlgolHouse house, String text, Random random) {
        int p = Check.read(house, text);
        calls += text.length() / 8 + 12 + (p < 0 ? 0 : 6 * house.nodes(p));
        if (p < 0) {
            Check.due("a fault of " + text, house.fault(0) >= 1 && house.fault(0) <= 6 && house.fault(1) >= 0
                    && house.fault(1) <= text.length(), true);
            return false;
        }
        for (int k = 0; k < house.nodes(p); k++) {
            int walk = random.nextInt();
            Check.due("mode and parts", house.mode(p, k, walk) < 0, house.parts(p, k, walk) < 0);
            Check.due("one", house.one(p, k, p, k), house.mode(p, k, 0) >= 0);
            house.one(p, k, 0, 0);
            house.meant(p, k);
            house.step(p, k, random.nextInt());
        }
        int steps = 1 + random.nextInt(3000);
        house.run(p, random.nextLong(), steps);
        Check.due("limits of " + text, house.ran(2) <= steps && house.ran(3) <= 300 && house.ran(4) <= 40
                && house.told() <= 200, true);
        house.orders(p, steps, 1 + random.nextInt(200));
        if (house.programs() == 6) {
            house.clear();
        }
        return true;
    }

    private static String outcome(AlgolHouse house, int i) {
        StringBuilder all = new StringBuilder(house.outcome(i, 0) + " " + house.outcome(i, 1));
        for (int j = 0; j < house.outcome(i, 2); j++) {
            all.append(' ').append(house.outcomes(i, j));
        }
        return all.toString();
    }

    private static String latest(AlgolHouse house) {
        StringBuilder all = new StringBuilder(house.ran(0) + " " + house.ran(1));
        for (int j = 0; j < house.told(); j++) {
            all.append(' ').append(house.number(j));
        }
        return all.toString();
    }

    private static void runsAreOrders() {
        for (String text : TEXTS) {
            AlgolHouse house = new AlgolHouse();
            Check.due("a program: " + text, Check.read(house, text), 0);
            int count = house.orders(0, 3000, 200);
            Check.due("outcomes of " + text, count > 1, true);
            StringBuilder all = new StringBuilder("|");
            for (int i = 0; i < count; i++) {
                all.append(outcome(house, i)).append('|');
            }
            for (int seed = -20; seed <= 20; seed++) {
                house.run(0, seed, 3000);
                Check.due(latest(house) + " in " + all + " of " + text, all.indexOf("|" + latest(house) + "|") >= 0, true);
            }
        }
    }

    private static void sameAgain() {
        for (String text : TEXTS) {
            for (int seed = 0; seed < 9; seed++) {
                Check.due("the same again: " + text, Check.run(text, seed, 3000), Check.run(text, seed, 3000));
            }
        }
    }
}
