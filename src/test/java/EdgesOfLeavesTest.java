/** The document's edges, sentence by sentence: term III, promises 15 to 20. */
public final class EdgesOfLeavesTest {
    private EdgesOfLeavesTest() {
    }

    public static void main(String[] args) {
        lands();
        untils();
        fees();
        aparts();
        editions();
        credits();
        orderOfClauses();
        known();
        gone();
        deaths();
        free();
        translators();
        granted();
        telling();
        leavesTold();
        goneCalls();
        deadCalls();
        mayCalls();
        leaveOnCalls();
        Edge.finish(15, 20);
    }

    private static PoetsBook withPoems(int n) {
        PoetsBook x = new PoetsBook();
        for (int p = 0; p < n; p++) {
            x.poem(p, 1900, p, 1);
        }
        return x;
    }

    /** What a leave of this text tells, or the kind of its fault as a number below 0. */
    private static int told(String text, int what) {
        PoetsBook x = withPoems(1);
        int k = Check.leave(x, 0, text);
        return k == PoetsBook.NONE ? -100 * x.fault(0) - x.fault(1) : x.left(k, what);
    }

    private static int fault(int kind, int place) {
        return -100 * kind - place;
    }

    // ---- term III

    private static void lands() {
        Edge.of("III", "\"lands\" N {N}");
        Edge.due("none told", told("", 1), 0);
        for (int land = 0; land < 6; land++) {
            Edge.due("land " + land, told("lands " + land + ";", 1), 1 << land);
        }
        Edge.due("all", told("lands 5 4 3 2 1 0;", 1), 63);
        Edge.due("two", told("lands 5 0;", 1), 33);
        Edge.due("no row", told("lands;", 1), fault(1, 5));
        Edge.due("too large", told("lands 6;", 1), fault(2, 6));
        Edge.due("too large at last", told("lands 0 1 2 3 4 5 6;", 1), fault(2, 18));
        Edge.due("again at last", told("lands 0 1 2 3 4 5 0;", 1), fault(3, 18));
        Edge.due("a word", told("lands 0 one;", 1), fault(1, 8));
        Edge.due("the end", told("lands 0 1 2 3 4 5", 1), fault(1, 17));
    }

    private static void untils() {
        Edge.of("III", "a day (29999)");
        Edge.due("none told", told("", 2), 29999);
        Edge.due("the least", told("until 0;", 2), 0);
        Edge.due("the greatest", told("until 29999;", 2), 29999);
        Edge.due("too large", told("until 30000;", 2), fault(2, 6));
        Edge.due("two", told("until 1 2;", 2), fault(1, 8));
        Edge.due("none", told("until;", 2), fault(1, 5));
    }

    private static void fees() {
        Edge.of("III", "pence 0 .. 9999 by LINE, by page, or in all (0, in all)");
        Edge.due("none told", told("", 3), 0);
        Edge.due("none told", told("", 4), 2);
        Edge.due("the least", told("fee 0 line;", 3), 0);
        Edge.due("the greatest", told("fee 9999 line;", 3), 9999);
        Edge.due("too large", told("fee 10000 line;", 3), fault(2, 4));
        Edge.due("by line", told("fee 0 line;", 4), 0);
        Edge.due("by page", told("fee 0 page;", 4), 1);
        Edge.due("in all", told("fee 0 all;", 4), 2);
        Edge.due("by nothing", told("fee 0;", 4), fault(1, 5));
        Edge.due("by something else", told("fee 0 word;", 4), fault(1, 6));
        Edge.due("no pence", told("fee all;", 4), fault(1, 4));
    }

    private static void aparts() {
        Edge.of("III", "POETS beside whom it mustn't stand");
        Edge.due("none told", told("", 5), 0);
        StringBuilder all = new StringBuilder("apart");
        for (int poet = 0; poet < 20; poet++) {
            Edge.due("poet " + poet, told("apart " + poet + ";", 5), 1 << poet);
            all.append(' ').append(poet);
        }
        Edge.due("all", told(all + ";", 5), (1 << 20) - 1);
        Edge.due("again at last", told(all + " 0;", 5), fault(3, all.length() + 1));
        Edge.due("too large at last", told(all + " 20;", 5), fault(2, all.length() + 1));
        Edge.due("too large", told("apart 20;", 5), fault(2, 6));
        Edge.due("no row", told("apart;", 5), fault(1, 5));
    }

    private static void editions() {
        Edge.of("III", "an EDITION 0 .. 2 (none)");
        Edge.due("none told", told("", 6), PoetsBook.NONE);
        for (int e = 0; e < 3; e++) {
            Edge.due("edition " + e, told("edition " + e + ";", 6), e);
        }
        Edge.due("too large", told("edition 3;", 6), fault(2, 8));
    }

    private static void credits() {
        Edge.of("III", "at most 6 words (none)");
        Edge.due("none told", told("", 7), 0);
        StringBuilder text = new StringBuilder("credit");
        for (int n = 1; n <= 6; n++) {
            text.append(" ab");
            Edge.due(n + " words", told(text + ";", 7), n);
            Edge.due(n + " words and the end", told(text.toString(), 7), fault(1, text.length()));
        }
        Edge.due("seven", told(text + " ab;", 7), fault(4, text.length() + 1));
        Edge.due("none", told("credit;", 7), fault(1, 6));
    }

    private static void orderOfClauses() {
        Edge.of("III", "A LEAVE, a text = {(");
        String[] clauses = {"lands 1;", "until 2;", "fee 3 page;", "apart 4;", "edition 1;", "credit a b;"};
        for (int first = 0; first < 6; first++) {
            StringBuilder text = new StringBuilder();
            for (int n = 0; n < 6; n++) {
                text.append(clauses[(first + n) % 6]);
            }
            PoetsBook x = withPoems(1);
            Edge.due("all in any order", Check.leave(x, 0, text.toString()), 0);
            int[] got = new int[9];
            for (int what = 0; what < 9; what++) {
                got[what] = x.left(0, what);
            }
            Edge.dues("left", got, 0, 2, 2, 3, 1, 16, 1, 2, 0);
            Edge.due("a seventh", Check.leave(x, 0, text + clauses[first]), PoetsBook.NONE);
            Edge.due("a seventh", x.fault(0), 3);
            Edge.due("a seventh", x.fault(1), text.length());
        }
    }

    private static void known() {
        Edge.of("III", "It is told for a POEM, KNOWN from the CLOCK's day on");
        PoetsBook x = withPoems(2);
        x.pass(10);
        Check.leave(x, 0, "lands 0;");
        Edge.due("ahead of that day", x.leaveOn(0, 9), PoetsBook.NONE);
        Edge.due("ahead of that day", x.may(0, 0, 10, 9), 0);
        Edge.due("on that day", x.leaveOn(0, 10), 0);
        Edge.due("on that day, for any day", x.may(0, 0, 0, 10), 1);
        Edge.due("for a day to come", x.leaveOn(0, 29999), 0);
        Edge.due("another poem", x.leaveOn(1, 10), PoetsBook.NONE);
        Edge.due("another poem", x.may(1, 0, 10, 10), 0);
        Edge.of("III", "LEAVE of a POEM as KNOWN on a day: the latest told by then.");
        Check.leave(x, 0, "lands 1;until 5;");
        Edge.due("the latest of one day", x.leaveOn(0, 10), 1);
        Edge.due("the earlier one tells nothing more", x.may(0, 0, 0, 10), 0);
        Edge.due("the latest tells", x.may(0, 1, 5, 10), 1);
        Edge.due("until has passed, the earlier one stays behind", x.may(0, 0, 6, 10), 0);
        x.pass(1);
        Check.leave(x, 1, "lands 2;");
        Check.leave(x, 0, "lands 3;");
        Edge.due("on the day before", x.leaveOn(0, 10), 1);
        Edge.due("on the next day", x.leaveOn(0, 11), 3);
        x.gone(3, 0);
        Edge.due("gone, it is still the latest", x.leaveOn(0, 11), 3);
        Edge.due("gone, the earlier ones stay behind", x.may(0, 1, 0, 11), 0);
        Edge.of("III", "(at most 80 in all)");
        for (int k = x.count(2); k < 80; k++) {
            Edge.due("leave", x.leave(k % 2), k);
        }
        Edge.due("the 81st", x.leave(0), PoetsBook.FULL);
        Edge.due("count(2)", x.count(2), 80);
        Edge.due("the 80th", x.left(79, 0), 1);
        Edge.due("no 81st", x.left(80, 0), -9);
    }

    private static void gone() {
        Edge.of("III", "GONE is told of a LEAVE from a day on, KNOWN likewise.");
        PoetsBook x = withPoems(1);
        Check.leave(x, 0, "lands 0;until 100;");
        x.pass(20);
        Edge.due("gone", x.gone(0, 50), 1);
        Edge.due("known on the day before", x.may(0, 0, 50, 19), 1);
        Edge.due("known on that day", x.may(0, 0, 50, 20), 0);
        Edge.due("the day before", x.may(0, 0, 49, 20), 1);
        Edge.due("a later day", x.may(0, 0, 100, 20), 0);
        PoetsBook y = withPoems(1);
        Check.leave(y, 0, "lands 0;");
        y.pass(20);
        Edge.due("gone from a day that was", y.gone(0, 0), 1);
        Edge.due("from day 0", y.may(0, 0, 0, 20), 0);
        Edge.due("it wasn't known", y.may(0, 0, 0, 19), 1);
        PoetsBook z = withPoems(1);
        Check.leave(z, 0, "lands 0;");
        Edge.due("gone from the last day", z.gone(0, 29999), 1);
        Edge.due("the last day but one", z.may(0, 0, 29998, 0), 1);
        Edge.due("the last day", z.may(0, 0, 29999, 0), 0);
    }

    private static void deaths() {
        Edge.of("III", "(as KNOWN on a day: the latest told by then)");
        PoetsBook x = withPoems(2);
        Check.rules(x, "free 0 0;");
        x.dead(0, 100);
        x.dead(0, 50);
        Edge.due("the latest of one day", x.may(0, 0, 50, 0), 2);
        Edge.due("the latest of one day", x.may(0, 0, 49, 0), 0);
        x.pass(7);
        x.dead(1, 0);
        x.dead(0, 80);
        Edge.due("known on the day before", x.may(0, 0, 50, 6), 2);
        Edge.due("known on that day", x.may(0, 0, 79, 7), 0);
        Edge.due("known on that day", x.may(0, 0, 80, 7), 2);
        Edge.due("another one's", x.may(1, 0, 0, 7), 2);
        Edge.due("another one's, the day before", x.may(1, 0, 0, 6), 0);
    }

    private static void free() {
        Edge.of("III", "the day is not ahead of the day of death and 365 times the years of that LAND");
        PoetsBook x = withPoems(1);
        Check.rules(x, "free 1 0;free 2 1;free 3 82;free 4 81;free 5 99;");
        x.dead(0, 69);
        int[] years = {70, 0, 1, 82, 81, 99};
        for (int land = 0; land < 6; land++) {
            int from = 69 + 365 * years[land];
            Edge.due("ahead of it, land " + land, x.may(0, land, Math.min(29999, from - 1), 0), 0);
            if (from <= 29999) {
                Edge.due("on it, land " + land, x.may(0, land, from, 0), 2);
            }
        }
        Edge.due("day 29999 is it", x.may(0, 3, 29999, 0), 2);
        x.dead(0, 70);
        Edge.due("day 29999 is ahead of it", x.may(0, 3, 29999, 0), 0);
        Edge.due("never within the days", x.may(0, 5, 29999, 0), 0);
        x.dead(0, 29999);
        Edge.due("dead on the last day", x.may(0, 1, 29999, 0), 2);
        Edge.due("dead on the last day", x.may(0, 1, 29998, 0), 0);
        Check.rules(x, "");
        Edge.due("by the rules of today", x.may(0, 1, 29999, 0), 0);
        Edge.of("III", "2 FREE: its POET is DEAD as KNOWN");
        PoetsBook y = withPoems(1);
        Check.rules(y, "free 0 0;");
        Edge.due("nobody is dead", y.may(0, 0, 29999, 29999), 0);
        y.pass(5);
        y.dead(0, 0);
        Edge.due("not known", y.may(0, 0, 29999, 4), 0);
        Edge.due("known", y.may(0, 0, 0, 5), 2);
    }

    private static void translators() {
        Edge.of("III", "(a TRANSLATOR, too, if it has one)");
        PoetsBook x = withPoems(2);
        Check.rules(x, "free 0 1;free 1 0;");
        x.translated(0, 9, 50);
        x.dead(0, 10);
        Edge.due("the translator lives", x.may(0, 0, 29999, 0), 0);
        x.dead(9, 30);
        Edge.due("ahead of the translator's", x.may(0, 0, 394, 0), 0);
        Edge.due("from the translator's", x.may(0, 0, 395, 0), 2);
        Edge.due("in another land", x.may(0, 1, 29, 0), 0);
        Edge.due("in another land", x.may(0, 1, 30, 0), 2);
        x.dead(9, 0);
        Edge.due("from the poet's", x.may(0, 0, 374, 0), 0);
        Edge.due("from the poet's", x.may(0, 0, 375, 0), 2);
        x.translated(1, 9, 50);
        Edge.due("the poet lives", x.may(1, 1, 29999, 0), 0);
        x.pass(3);
        x.dead(1, 0);
        Edge.due("both are dead", x.may(1, 1, 0, 3), 2);
        Edge.due("the poet, as known ahead", x.may(1, 1, 0, 2), 0);
        PoetsBook y = withPoems(1);
        Check.rules(y, "free 0 0;");
        y.dead(0, 0);
        y.pass(3);
        y.translated(0, 9, 50);
        y.dead(9, 0);
        Edge.due("the translator, as known ahead", y.may(0, 0, 0, 2), 0);
        Edge.due("the translator, as known", y.may(0, 0, 0, 3), 2);
    }

    private static void granted() {
        Edge.of("III", "its LEAVE as KNOWN tells the LAND, until isn't ahead of the day");
        PoetsBook x = withPoems(1);
        Check.leave(x, 0, "lands 0 5;until 100;");
        int[] dues = {1, 0, 0, 0, 0, 1};
        for (int land = 0; land < 6; land++) {
            Edge.due("land " + land, x.may(0, land, 0, 0), dues[land]);
            Edge.due("until, land " + land, x.may(0, land, 100, 0), dues[land]);
            Edge.due("behind until, land " + land, x.may(0, land, 101, 0), 0);
        }
        Check.leave(x, 0, "lands 0;until 0;");
        Edge.due("until 0", x.may(0, 0, 0, 0), 1);
        Edge.due("behind until 0", x.may(0, 0, 1, 0), 0);
        Check.leave(x, 0, "lands 0;");
        Edge.due("until isn't told", x.may(0, 0, 29999, 0), 1);
        Edge.of("III", "and it isn't GONE as KNOWN, from a day not behind that one; 0 else.");
        x.gone(2, 7);
        Edge.due("ahead of gone", x.may(0, 0, 6, 0), 1);
        Edge.due("gone", x.may(0, 0, 7, 0), 0);
        Check.rules(x, "free 0 0;");
        x.dead(0, 8);
        Edge.due("gone, but free", x.may(0, 0, 8, 0), 2);
        Edge.due("gone", x.may(0, 0, 7, 0), 0);
        Check.leave(x, 0, "lands 0;");
        Edge.due("by a new leave", x.may(0, 0, 7, 0), 1);
        Edge.due("free goes ahead of a leave", x.may(0, 0, 8, 0), 2);
    }

    // ---- promises 15 to 20

    private static void telling() {
        Edge.of(15, "its number; RANGE: no such POEM; FULL; NONE with a FAULT.");
        PoetsBook x = withPoems(2);
        int[] none = {2, -1, 40, Integer.MIN_VALUE, Integer.MAX_VALUE};
        for (int p : none) {
            Edge.due("poem " + p, Check.leave(x, p, "lands 0;"), PoetsBook.RANGE);
            Edge.due("poem " + p + ", with a fault", Check.leave(x, p, "lands"), PoetsBook.RANGE);
        }
        Edge.due("with a fault", Check.leave(x, 0, "lands 0;lands 0;"), PoetsBook.NONE);
        Edge.due("none came", x.count(2), 0);
        Edge.due("none came", x.leaveOn(0, 0), PoetsBook.NONE);
        Edge.due("an empty tape", x.leave(1), 0);
        Edge.due("with a fault", Check.leave(x, 0, "until 30000;"), PoetsBook.NONE);
        Edge.due("the next", Check.leave(x, 0, "until 29999;"), 1);
        for (int k = 2; k < 80; k++) {
            x.leave(0);
        }
        Edge.due("the 81st", x.leave(0), PoetsBook.FULL);
        Edge.due("the 81st, with a fault", Check.leave(x, 0, "zzz"), PoetsBook.FULL);
        Edge.due("RANGE ahead of FULL", x.leave(2), PoetsBook.RANGE);
    }

    private static void leavesTold() {
        Edge.of(16, "8: the day on which it was told. -9 when there is none such.");
        PoetsBook x = withPoems(3);
        Edge.due("no leave", x.left(0, 0), -9);
        x.pass(9999);
        x.leave(2);
        Edge.due("the poem", x.left(0, 0), 2);
        Edge.due("the day", x.left(0, 8), 9999);
        x.pass(1);
        Edge.due("the day stays", x.left(0, 8), 9999);
        int[] none = {-1, 9, 32, Integer.MIN_VALUE, Integer.MAX_VALUE};
        for (int what : none) {
            Edge.due("what " + what, x.left(0, what), -9);
        }
        int[] others = {-1, 1, 80, Integer.MIN_VALUE, Integer.MAX_VALUE};
        for (int k : others) {
            for (int what = -1; what < 10; what++) {
                Edge.due("leave " + k, x.left(k, what), -9);
            }
        }
        x.gone(0, 0);
        Edge.due("gone, it still tells", x.left(0, 2), 29999);
    }

    private static void goneCalls() {
        Edge.of(17, "A LEAVE is GONE from a day on: 1; RANGE; STATE: it was told so.");
        PoetsBook x = withPoems(1);
        Edge.due("no leave", x.gone(0, 0), PoetsBook.RANGE);
        x.leave(0);
        x.leave(0);
        int[] none = {-1, 2, 80, Integer.MIN_VALUE, Integer.MAX_VALUE};
        for (int k : none) {
            Edge.due("leave " + k, x.gone(k, 0), PoetsBook.RANGE);
        }
        int[] days = {-1, 30000, Integer.MIN_VALUE, Integer.MAX_VALUE};
        for (int day : days) {
            Edge.due("day " + day, x.gone(0, day), PoetsBook.RANGE);
        }
        Edge.due("RANGE tells nothing", x.gone(0, 0), 1);
        Edge.due("told so", x.gone(0, 0), PoetsBook.STATE);
        Edge.due("told so, another day", x.gone(0, 29999), PoetsBook.STATE);
        Edge.due("RANGE ahead of STATE", x.gone(0, 30000), PoetsBook.RANGE);
        Edge.due("another leave", x.gone(1, 29999), 1);
        Edge.due("told so", x.gone(1, 0), PoetsBook.STATE);
    }

    private static void deadCalls() {
        Edge.of(18, "how many were told in all; RANGE; FULL: the 61st.");
        PoetsBook x = withPoems(1);
        Check.rules(x, "free 0 0;");
        int[] none = {-1, 20, Integer.MIN_VALUE, Integer.MAX_VALUE};
        for (int poet : none) {
            Edge.due("poet " + poet, x.dead(poet, 0), PoetsBook.RANGE);
        }
        int[] days = {-1, 30000, Integer.MIN_VALUE, Integer.MAX_VALUE};
        for (int day : days) {
            Edge.due("day " + day, x.dead(0, day), PoetsBook.RANGE);
        }
        Edge.due("RANGE tells nothing", x.may(0, 0, 29999, 0), 0);
        for (int n = 1; n <= 59; n++) {
            Edge.due("dead", x.dead(19, n % 2 == 0 ? 0 : 29999), n);
        }
        Edge.due("the 60th", x.dead(0, 5), 60);
        Edge.due("the 61st", x.dead(0, 0), PoetsBook.FULL);
        Edge.due("RANGE ahead of FULL", x.dead(20, 0), PoetsBook.RANGE);
        Edge.due("the 60th counts", x.may(0, 0, 5, 0), 2);
        Edge.due("the 61st doesn't", x.may(0, 0, 4, 0), 0);
    }

    private static void mayCalls() {
        Edge.of(19, "MAY: 0 .. 2; RANGE.");
        PoetsBook x = new PoetsBook();
        Edge.due("no poem", x.may(0, 0, 0, 0), PoetsBook.RANGE);
        x.poem(0, 0, 0, 0);
        Edge.due("the least", x.may(0, 0, 0, 0), 0);
        Edge.due("the greatest", x.may(0, 5, 29999, 29999), 0);
        int[] none = {-1, 1, 40, Integer.MIN_VALUE, Integer.MAX_VALUE};
        for (int p : none) {
            Edge.due("poem " + p, x.may(p, 0, 0, 0), PoetsBook.RANGE);
        }
        int[] days = {-1, 30000, Integer.MIN_VALUE, Integer.MAX_VALUE};
        for (int day : days) {
            Edge.due("day " + day, x.may(0, 0, day, 0), PoetsBook.RANGE);
            Edge.due("known " + day, x.may(0, 0, 0, day), PoetsBook.RANGE);
            Edge.due("land " + day, x.may(0, day, 0, 0), PoetsBook.RANGE);
        }
        Edge.due("land 6", x.may(0, 6, 0, 0), PoetsBook.RANGE);
    }

    private static void leaveOnCalls() {
        Edge.of(20, "Which LEAVE a POEM has as KNOWN on a day; NONE; RANGE.");
        PoetsBook x = new PoetsBook();
        Edge.due("no poem", x.leaveOn(0, 0), PoetsBook.RANGE);
        x.poem(0, 0, 0, 0);
        Edge.due("none", x.leaveOn(0, 29999), PoetsBook.NONE);
        x.leave(0);
        Edge.due("on day 0", x.leaveOn(0, 0), 0);
        Edge.due("on day 29999", x.leaveOn(0, 29999), 0);
        int[] none = {-1, 1, 40, Integer.MIN_VALUE, Integer.MAX_VALUE};
        for (int p : none) {
            Edge.due("poem " + p, x.leaveOn(p, 0), PoetsBook.RANGE);
        }
        int[] days = {-1, 30000, Integer.MIN_VALUE, Integer.MAX_VALUE};
        for (int day : days) {
            Edge.due("known " + day, x.leaveOn(0, day), PoetsBook.RANGE);
        }
    }
}
