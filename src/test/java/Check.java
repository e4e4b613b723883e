/** What the tests share: texts as strings, and answers that are compared with those that are due. */
final class Check {
    private static int wrong;

    private Check() {
    }

    static void due(String what, Object got, Object want) {
        String one = String.valueOf(got);
        String other = String.valueOf(want);
        if (!one.equals(other)) {
            wrong++;
            System.out.println(what + ": answered " + one + ", due is " + other);
        }
    }

    /** The exception's name that a call throws, or its answer. */
    static String answer(java.util.concurrent.Callable<?> call) {
        try {
            return String.valueOf(call.call());
        } catch (Exception thrown) {
            return thrown.getClass().getSimpleName();
        }
    }

    static void type(AlgolHouse house, String text) {
        for (int from = 0; from < text.length(); from += 8) {
            long eight = 0;
            for (int i = from; i < Math.min(from + 8, text.length()); i++) {
                eight |= (long) text.charAt(i) << (8 * (i - from));
            }
            house.type(eight);
        }
    }

    static int read(AlgolHouse house, String text) {
        type(house, text);
        return house.read();
    }

    /** A text's fault and its place, "0 -1" without. */
    static String fault(String text) {
        AlgolHouse house = new AlgolHouse();
        int p = read(house, text);
        if (p >= 0 && house.fault(0) != 0) {
            return "program and fault";
        }
        return house.fault(0) + " " + house.fault(1);
    }

    static void faulty(String text, int fault, int place) {
        due("fault of " + text, fault(text), fault + " " + place);
    }

    static void good(String text) {
        faulty(text, 0, -1);
    }

    /* A | stands in some texts where a token begins: it marks the place that is due, and no token has that byte. */
    static int mark(String marked) {
        return marked.indexOf('|');
    }

    static String plain(String marked) {
        return marked.replace("|", "");
    }

    static void faultyAt(int fault, String marked) {
        faulty(plain(marked), fault, mark(marked));
    }

    static void syntaxAt(String marked) {
        faultyAt(1, marked);
    }

    static void failsAt(int failure, String marked) {
        fails(plain(marked), failure, mark(marked));
    }

    /** Failure, place, steps, places, depth, then what was told. */
    static String run(String text, long seed, int steps) {
        AlgolHouse house = new AlgolHouse();
        int p = read(house, text);
        if (p < 0) {
            return "fault " + house.fault(0) + " " + house.fault(1);
        }
        house.run(p, seed, steps);
        return told(house);
    }

    static String told(AlgolHouse house) {
        StringBuilder all = new StringBuilder();
        for (int what = 0; what < 5; what++) {
            all.append(house.ran(what)).append(' ');
        }
        all.append(':');
        for (int i = 0; i < house.told(); i++) {
            all.append(' ').append("ILB".charAt(house.kind(i))).append(house.number(i));
        }
        return all.toString();
    }

    /** Failure and place alone, then what was told. */
    static String outline(String text) {
        String all = run(text, 0, 3000);
        if (all.startsWith("fault")) {
            return all;
        }
        String[] words = all.split(" ");
        return words[0] + " " + words[1] + " " + all.substring(all.indexOf(':'));
    }

    static void prints(String text, String numbers) {
        due("outline of " + text, outline(text), "0 -1 :" + (numbers.isEmpty() ? "" : " " + numbers));
    }

    static void fails(String text, int failure, int place) {
        String all = outline(text);
        due("failure of " + text, all.split(" :")[0], failure + " " + place);
    }

    static String many(String part, int times) {
        return part.repeat(times);
    }

    static void end() {
        if (wrong > 0) {
            System.out.println(wrong + " answers are wrong");
            System.exit(1);
        }
    }
}
