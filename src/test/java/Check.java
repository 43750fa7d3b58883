/** Counts answers that are not as due, and tells how a test ended. */
final class Check {
    private static int wrong = 0;
    private static int right = 0;

    private Check() {
    }

    static void due(String call, int got, int want) {
        if (got == want) {
            right++;
        } else {
            wrong++;
            System.out.println(call + " answered " + got + ", due is " + want);
        }
    }

    static void holds(String what, boolean isSo) {
        due(what, isSo ? 1 : 0, 1);
    }

    static int wrongCount() {
        return wrong;
    }

    static void finish() {
        System.out.println(right + " answers as due, " + wrong + " not");
        if (wrong != 0 || right == 0) {
            System.exit(1);
        }
    }

    /** Puts a text behind what the tape has, and cuts the padding off. */
    static void put(PoetsBook x, String text) {
        int had = x.count(4);
        for (int i = 0; i < text.length(); i += 20) {
            int[] fives = new int[5];
            for (int k = 0; k < 20; k++) {
                int sign = i + k < text.length() ? text.charAt(i + k) : 0;
                fives[k / 4] = fives[k / 4] << 8 | sign & 255;
            }
            x.feed(fives[0], fives[1], fives[2], fives[3], fives[4]);
        }
        x.end(had + text.length());
    }

    static int rules(PoetsBook x, String text) {
        put(x, text);
        return x.rules();
    }

    static int edition(PoetsBook x, int p, String text) {
        put(x, text);
        return x.edition(p);
    }

    static int leave(PoetsBook x, int p, String text) {
        put(x, text);
        return x.leave(p);
    }

    static int lay(PoetsBook x, String text) {
        put(x, text);
        return x.lay();
    }
}
