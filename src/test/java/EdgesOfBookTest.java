/** The document's edges, sentence by sentence: term IV, promises 21 to 39. */
public final class EdgesOfBookTest {
    private static final int MIN = Integer.MIN_VALUE;
    private static final int MAX = Integer.MAX_VALUE;
    private static final String PLAIN = "page 6;title 0;front 0;";

    private EdgesOfBookTest() {
    }

    public static void main(String[] args) {
        knownToday();
        allowed();
        printedEditions();
        fees();
        books();
        candidates();
        abouts();
        choices();
        bestChoices();
        choosing();
        worths();
        neighbours();
        stepsBack();
        ordering();
        laying();
        pagesOfTheRow();
        places();
        printing();
        indexes();
        withdrawals();
        bestWithdrawals();
        withdrawing();
        coming();
        partedRoyalties();
        royalties();
        againAndLacking();
        asking();
        counts();
        Edge.finish(21, Doc.PROMISES);
    }

    private static String lines(int n) {
        return "a" + ";a".repeat(n - 1);
    }

    private static PoetsBook ruled(String rules) {
        PoetsBook x = new PoetsBook();
        Edge.due("rules " + rules, Check.rules(x, rules) < 0 ? 1 : 0, 0);
        return x;
    }

    /** A poem with one edition of so many lines and a leave, as a candidate. */
    private static int add(PoetsBook x, int poet, int year, int worth, int lines, String leave) {
        int p = x.poem(poet, year, poet, worth);
        Check.edition(x, p, lines(lines));
        if (leave != null) {
            Check.leave(x, p, leave);
        }
        return x.candidate(p);
    }

    /** A candidate of the year 1900 that may be printed in land 0 for nothing. */
    private static int add(PoetsBook x, int poet, int worth, int lines) {
        return add(x, poet, 1900, worth, lines, "lands 0;");
    }

    private static void about(PoetsBook x, int c, int... dues) {
        int[] got = new int[5];
        for (int what = 0; what < 5; what++) {
            got[what] = x.about(c, what);
        }
        Edge.dues("about(" + c + ")", got, dues);
    }

    private static void row(PoetsBook x, int... dues) {
        int[] got = new int[x.printed(0)];
        for (int i = 0; i < got.length; i++) {
            got[i] = x.place(i, 0);
        }
        Edge.dues("row", got, dues);
    }

    private static void comes(PoetsBook x, int i, int moved, int... dues) {
        Edge.due("withdraw(" + i + ")", x.withdraw(i), moved);
        int[] got = new int[4];
        for (int what = 0; what < 4; what++) {
            got[what] = x.comes(what);
        }
        Edge.dues("withdraw(" + i + "), comes", got, dues);
    }

    private static void shares(PoetsBook x, int... dues) {
        for (int poet = 0; poet < 20; poet++) {
            Edge.due("share(" + poet + ")", x.share(poet), poet < dues.length ? dues[poet] : 0);
        }
    }

    // ---- what is allowed, printed and due for it

    private static void knownToday() {
        Edge.of("IV", "(All that follows as KNOWN today.)");
        PoetsBook x = ruled("free 0 0;");
        x.pass(50);
        add(x, 0, 0, 1);
        Edge.due("a leave told behind the book's day", x.about(0, 1), 1);
        x.gone(0, 0);
        Edge.due("gone, told behind the book's day", x.about(0, 1), 0);
        x.dead(0, 0);
        Edge.due("dead, told behind the book's day", x.about(0, 1), 1);
        x.dead(0, 1);
        Edge.due("the latest death", x.about(0, 1), 0);
    }

    private static void allowed() {
        Edge.of("IV", "A POEM is ALLOWED, if it MAY in each of THE BOOK's LANDS on its day");
        PoetsBook x = ruled("free 5 0;");
        add(x, 0, 0, 0, 1, "lands 0 1 2 3 4;until 100;");
        for (int lands = 1; lands < 64; lands++) {
            x.book(lands, 100);
            Edge.due("lands " + lands, x.about(0, 1), lands < 32 ? 1 : 0);
        }
        x.book(31, 101);
        Edge.due("until has passed", x.about(0, 1), 0);
        x.dead(0, 100);
        x.book(63, 100);
        Edge.due("free in one, by leave in the others", x.about(0, 1), 1);
        x.book(63, 99);
        Edge.due("not yet free in one", x.about(0, 1), 0);
        x.book(31, 99);
        Edge.due("by leave in all", x.about(0, 1), 1);
        Edge.of("IV", "it has the EDITION that is PRINTED, and that has PAGES.");
        PoetsBook y = ruled("page 6;title 4;");
        y.poem(0, 0, 0, 0);
        Check.leave(y, 0, "lands 0;");
        y.candidate(0);
        about(y, 0, 0, 0, -1, -1, 0);
        Check.edition(y, 0, "a;b;c");
        about(y, 0, 0, 0, 0, -1, 0);
        Check.rules(y, "page 6;title 3;");
        about(y, 0, 0, 1, 0, 1, 0);
        Check.leave(y, 0, "lands 0;edition 2;");
        about(y, 0, 0, 0, 2, -1, 0);
        Check.edition(y, 0, "a;b;c");
        about(y, 0, 0, 0, 2, -1, 0);
        Check.edition(y, 0, "a/b/c/d");
        about(y, 0, 0, 1, 2, 2, 0);
    }

    private static void printedEditions() {
        Edge.of("IV", "PRINTED: the EDITION its LEAVE tells, if it tells one and the POEM is not FREE in all "
                + "these LANDS; else the latest.");
        PoetsBook x = ruled("free 0 0;free 1 1;");
        add(x, 0, 0, 0, 1, "lands 0 1 2;edition 0;fee 5 line;");
        Check.edition(x, 0, lines(2));
        Check.edition(x, 0, lines(3));
        about(x, 0, 0, 1, 0, 1, 5);
        x.dead(0, 0);
        about(x, 0, 0, 1, 2, 1, 0);
        x.book(3, 364);
        about(x, 0, 0, 1, 0, 1, 5);
        x.book(3, 365);
        about(x, 0, 0, 1, 2, 1, 0);
        x.book(7, 365);
        about(x, 0, 0, 1, 0, 1, 5);
        Check.leave(x, 0, "lands 0 1 2;fee 5 line;");
        about(x, 0, 0, 1, 2, 1, 15);
        Check.leave(x, 0, "lands 0 1 2;edition 1;");
        x.gone(2, 0);
        Edge.due("gone, it still tells", x.about(0, 2), 1);
        Edge.due("gone, it isn't allowed", x.about(0, 1), 0);
        PoetsBook y = new PoetsBook();
        add(y, 0, 0, 0, 1, null);
        Check.edition(y, 0, "a");
        Edge.due("without a leave the latest", y.about(0, 2), 1);
    }

    private static void fees() {
        Edge.of("IV", "FEE: 0, if FREE in all; else by its LEAVE: by LINES, by PAGES, or in all.");
        PoetsBook x = ruled("page 6;title 0;free 0 0;free 1 0;");
        String[] leaves = {"fee 9999 line;", "fee 9999 page;", "fee 9999 all;", "", "fee 0 line;"};
        for (String leave : leaves) {
            add(x, 0, 0, 0, 30, "lands 0 1 2;" + leave);
        }
        int[] dues = {9999 * 30, 9999 * 5, 9999, 0, 0};
        for (int c = 0; c < dues.length; c++) {
            about(x, c, c, 1, 0, 5, dues[c]);
        }
        x.dead(0, 0);
        for (int c = 0; c < dues.length; c++) {
            about(x, c, c, 1, 0, 5, 0);
        }
        x.book(4 + 1, 0);
        for (int c = 0; c < dues.length; c++) {
            about(x, c, c, 1, 0, 5, dues[c]);
        }
        x.book(8, 0);
        for (int c = 0; c < dues.length; c++) {
            about(x, c, c, 0, 0, 5, 0);
        }
    }

    private static void books() {
        Edge.of(21, "THE BOOK's LANDS (1 .. 63) and day: 1; RANGE.");
        PoetsBook x = new PoetsBook();
        int[] none = {0, 64, -1, MIN, MAX, 128};
        for (int lands : none) {
            Edge.due("lands " + lands, x.book(lands, 5), PoetsBook.RANGE);
        }
        int[] days = {-1, 30000, MIN, MAX};
        for (int day : days) {
            Edge.due("day " + day, x.book(2, day), PoetsBook.RANGE);
        }
        Edge.due("the lands stay", x.count(5), 1);
        Edge.due("the day stays", x.count(6), 0);
        Edge.due("the greatest", x.book(63, 29999), 1);
        Edge.due("lands", x.count(5), 63);
        Edge.due("day", x.count(6), 29999);
        Edge.due("the least", x.book(1, 0), 1);
        Edge.due("lands", x.count(5), 1);
        Edge.due("day", x.count(6), 0);
        Edge.of(21, "The row stays.");
        add(x, 0, 0, 1);
        add(x, 1, 0, 1);
        Check.lay(x, "BA");
        x.again(2, 0);
        x.withdraw(0);
        x.choose();
        x.book(2, 7);
        row(x, 1, 0);
        Edge.due("what again() told stays", x.lacking(0), 2);
        Edge.due("what withdraw() told stays", x.comes(0), 0);
        Edge.due("what choose() told stays", x.count(3), 2);
        x.book(1, 7);
        Edge.due("allowed again", x.place(0, 1), 5);
    }

    private static void candidates() {
        Edge.of("IV", "CANDIDATES: POEMS, at most 14, numbered from 0 as they come.");
        PoetsBook x = new PoetsBook();
        for (int p = 0; p < 16; p++) {
            x.poem(0, 0, 0, 0);
        }
        for (int c = 0; c < 14; c++) {
            Edge.due("candidate", x.candidate(15 - c), c);
            Edge.due("its poem", x.about(c, 0), 15 - c);
            Edge.due("no more", x.about(c + 1, 0), -9);
        }
        Edge.of(22, "its number; RANGE: no such POEM; STATE: it is one; FULL.");
        Edge.due("the fifteenth", x.candidate(0), PoetsBook.FULL);
        Edge.due("count(3)", x.count(3), 14);
        Edge.due("STATE ahead of FULL", x.candidate(15), PoetsBook.STATE);
        Edge.due("STATE ahead of FULL", x.candidate(2), PoetsBook.STATE);
        int[] none = {16, -1, 40, MIN, MAX};
        for (int p : none) {
            Edge.due("poem " + p, x.candidate(p), PoetsBook.RANGE);
            Edge.due("poem " + p, new PoetsBook().candidate(p), PoetsBook.RANGE);
        }
        PoetsBook y = new PoetsBook();
        y.poem(0, 0, 0, 0);
        Edge.due("the first", y.candidate(0), 0);
        Edge.due("it is one", y.candidate(0), PoetsBook.STATE);
        Edge.due("poem 1", y.candidate(1), PoetsBook.RANGE);
        Edge.due("count(3)", y.count(3), 1);
    }

    private static void abouts() {
        Edge.of(23, "2: the EDITION that is PRINTED (NONE), 3: its PAGES (NONE), 4: FEE (0 if it isn't ALLOWED).");
        PoetsBook x = new PoetsBook();
        x.poem(0, 0, 0, 0);
        x.candidate(0);
        about(x, 0, 0, 0, -1, -1, 0);
        Check.leave(x, 0, "lands 1;fee 7 all;");
        Check.edition(x, 0, "a");
        about(x, 0, 0, 0, 0, 1, 0);
        Check.leave(x, 0, "lands 0;fee 7 all;");
        about(x, 0, 0, 1, 0, 1, 7);
        Edge.of(23, "-9 when there is none such.");
        int[] whats = {5, -1, MIN, MAX};
        for (int what : whats) {
            Edge.due("what " + what, x.about(0, what), -9);
        }
        int[] others = {1, -1, 14, 32, MIN, MAX};
        for (int c : others) {
            for (int what = -1; what < 6; what++) {
                Edge.due("candidate " + c, x.about(c, what), -9);
            }
        }
    }

    // ---- the choice

    private static void choices() {
        Edge.of("IV", "of each POET at most most");
        PoetsBook x = ruled("most 2;");
        for (int c = 0; c < 3; c++) {
            add(x, 7, 10, 1);
        }
        add(x, 19, 10, 1);
        Edge.due("two of one, one of another", x.worth(8 | 3), 30);
        Edge.due("three of one", x.worth(7), PoetsBook.NONE);
        Edge.due("the best", x.choose(), 30);
        Edge.due("its set", x.chosen(), 8 | 3);
        Check.rules(x, "most 1;");
        Edge.due("one of one", x.choose(), 20);
        Edge.due("its set", x.chosen(), 8 | 1);
        Check.rules(x, "most 3;");
        Edge.due("three of one", x.choose(), 40);
        PoetsBook nine = new PoetsBook();
        for (int c = 0; c < 10; c++) {
            add(nine, 0, 10, 1);
        }
        Edge.due("nine of one, at first", nine.worth(511), 90);
        Edge.due("ten of one, at first", nine.worth(1023), PoetsBook.NONE);
        Edge.due("nine of one, at first", nine.choose(), 90);
        PoetsBook other = ruled("most 1;");
        add(other, 0, 5, 1);
        add(other, 1, 5, 1);
        other.translated(1, 0, 50);
        Edge.due("a translator isn't its poet", other.worth(3), 10);
        Edge.of("IV", "front and all PAGES not more than sheets times sheet");
        PoetsBook y = ruled("page 6;title 0;front 2;sheets 3;sheet 2;");
        add(y, 0, 10, 13);
        add(y, 1, 5, 1);
        add(y, 2, 4, 1);
        Edge.due("all rooms taken", y.worth(3), 15);
        Edge.due("one page more", y.worth(7), PoetsBook.NONE);
        Edge.due("the best", y.choose(), 15);
        Check.rules(y, "page 6;title 0;front 1;sheets 3;sheet 2;");
        Edge.due("one page less in front", y.choose(), 19);
        Edge.of("IV", "FEES not more than sum.");
        PoetsBook z = ruled("page 6;title 0;sum 10;");
        add(z, 0, 0, 6, 1, "lands 0;fee 7 all;");
        add(z, 1, 0, 5, 3, "lands 0;fee 1 line;");
        add(z, 2, 0, 1, 1, "lands 0;fee 1 page;");
        Edge.due("all pence taken", z.worth(3), 11);
        Edge.due("a penny more", z.worth(7), PoetsBook.NONE);
        Edge.due("the best", z.choose(), 11);
        Check.rules(z, "page 6;title 0;sum 11;");
        Edge.due("a penny more", z.choose(), 12);
        Check.rules(z, "page 6;title 0;sum 0;");
        Edge.due("none", z.choose(), 0);
        Edge.due("none", z.chosen(), 0);
        Edge.of("IV", "CHOICE: a set of CANDIDATES, all ALLOWED");
        PoetsBook u = new PoetsBook();
        add(u, 0, 0, 9, 1, "lands 1;");
        add(u, 1, 3, 1);
        Edge.due("one isn't", u.worth(3), PoetsBook.NONE);
        Edge.due("it isn't", u.worth(1), PoetsBook.NONE);
        Edge.due("it is", u.worth(2), 3);
        Edge.due("the best", u.choose(), 3);
        Edge.due("the best", u.chosen(), 2);
        PoetsBook v = ruled("front 1;sheets 1;sheet 2;");
        add(v, 0, 0, 5, 1, "lands 0;fee 5 all;");
        add(v, 1, 0, 5, 1, "lands 0;fee 4 all;");
        for (int c = 2; c < 14; c++) {
            add(v, c, 0, 99, 1, "lands 1;");
        }
        Edge.due("twelve aren't", v.choose(), 5);
        Edge.due("the least fees of those that are", v.chosen(), 2);
    }

    private static void bestChoices() {
        Edge.of("IV", "BEST: the most WORTH; then the least FEES; then the fewest PAGES; then the least set (bits).");
        // Room for one poem of two pages or two of one.
        String room = "page 6;title 0;front 0;sheets 1;sheet 2;";
        PoetsBook x = ruled(room);
        add(x, 0, 0, 9, 1, "lands 0;");
        add(x, 1, 0, 10, 7, "lands 0;fee 9999 all;");
        Edge.due("more worth, whatever it costs", x.choose(), 10);
        Edge.due("more worth, whatever it costs", x.chosen(), 2);
        add(x, 2, 0, 10, 7, "lands 0;fee 9998 all;");
        x.choose();
        Edge.due("a penny less", x.chosen(), 4);
        add(x, 3, 0, 10, 7, "lands 0;fee 9998 all;");
        x.choose();
        Edge.due("the least set", x.chosen(), 4);
        add(x, 4, 0, 10, 6, "lands 0;fee 9998 all;");
        // Candidate 4 goes with 0 on two pages now.
        Edge.due("more worth", x.choose(), 19);
        Edge.due("more worth", x.chosen(), 17);
        PoetsBook y = ruled("page 6;title 0;front 0;sheets 1;sheet 3;sum 5;");
        add(y, 0, 0, 10, 13, "lands 0;fee 5 all;");
        add(y, 1, 0, 10, 7, "lands 0;fee 5 all;");
        Edge.due("as much worth", y.choose(), 10);
        Edge.due("fewer pages, though a greater set", y.chosen(), 2);
        add(y, 2, 0, 5, 1, "lands 0;fee 2 all;");
        add(y, 3, 0, 5, 7, "lands 0;fee 2 all;");
        y.choose();
        Edge.due("fewer fees, though more pages", y.chosen(), 12);
        PoetsBook z = new PoetsBook();
        add(z, 0, 0, 1);
        add(z, 1, 0, 1);
        Edge.due("no worth", z.choose(), 0);
        Edge.due("no worth: none, which has the fewest pages", z.chosen(), 0);
        PoetsBook u = ruled("most 1;");
        for (int c = 0; c < 14; c++) {
            add(u, c / 2, 99, 1);
        }
        Edge.due("fourteen", u.choose(), 7 * 99);
        Edge.due("the least set", u.chosen(), 0x1555);
    }

    private static void choosing() {
        Edge.of(24, "NONE: there is none (front alone is too much).");
        PoetsBook x = ruled("front 3;sheets 1;sheet 2;");
        Edge.due("three of two pages", x.choose(), PoetsBook.NONE);
        Edge.due("no set either", x.worth(0), PoetsBook.NONE);
        Check.rules(x, "front 2;sheets 1;sheet 2;");
        Edge.due("two of two pages", x.choose(), 0);
        Edge.due("two of two pages", x.worth(0), 0);
        add(x, 0, 5, 1);
        Edge.due("no room for any", x.choose(), 0);
        Edge.due("no room for any", x.chosen(), 0);
        Check.rules(x, "front 30;sheets 40;sheet 32;");
        Edge.due("the greatest", x.choose(), 5);
        Edge.of(25, "The set of the latest choose() that told WORTH, as bits");
        Edge.due("chosen", x.chosen(), 1);
        Check.rules(x, "front 30;sheets 1;sheet 29;");
        Edge.due("none", x.choose(), PoetsBook.NONE);
        Edge.due("the one ahead", x.chosen(), 1);
        Edge.due("worth() doesn't choose", x.worth(0), PoetsBook.NONE);
        Check.rules(x, "front 30;sheets 1;sheet 30;");
        Edge.due("worth() doesn't choose", x.worth(0), 0);
        Edge.due("the one ahead", x.chosen(), 1);
        Edge.due("none taken", x.choose(), 0);
        Edge.due("none taken", x.chosen(), 0);
        Edge.of(25, "(0 ahead of any, or if a candidate() came since).");
        PoetsBook y = new PoetsBook();
        Edge.due("ahead of any", y.chosen(), 0);
        add(y, 0, 5, 1);
        Edge.due("ahead of any", y.chosen(), 0);
        y.choose();
        Edge.due("chosen", y.chosen(), 1);
        Edge.due("none came", y.candidate(0), PoetsBook.STATE);
        Edge.due("none came", y.candidate(9), PoetsBook.RANGE);
        Edge.due("chosen", y.chosen(), 1);
        y.poem(0, 0, 0, 0);
        Edge.due("a poem is no candidate", y.chosen(), 1);
        y.candidate(1);
        Edge.due("one came", y.chosen(), 0);
        y.choose();
        Edge.due("chosen again", y.chosen(), 1);
        y.gone(0, 0);
        Edge.due("as it was", y.chosen(), 1);
    }

    private static void worths() {
        Edge.of(26, "WORTH of a CHOICE (bits); NONE: it is none; RANGE.");
        PoetsBook x = new PoetsBook();
        Edge.due("no candidates: none", x.worth(0), 0);
        Edge.due("no candidates: one", x.worth(1), PoetsBook.RANGE);
        for (int c = 0; c < 14; c++) {
            add(x, c, 99, 1);
            Edge.due("the last", x.worth(1 << c), 99);
            Edge.due("behind the last", x.worth(2 << c), PoetsBook.RANGE);
        }
        Edge.due("all", x.worth((1 << 14) - 1), 14 * 99);
        Edge.due("a bit too many", x.worth(1 << 14 | 1), PoetsBook.RANGE);
        Edge.due("-1", x.worth(-1), PoetsBook.RANGE);
        Edge.due("min", x.worth(MIN), PoetsBook.RANGE);
        Edge.due("max", x.worth(MAX), PoetsBook.RANGE);
        Edge.due("none", x.worth(0), 0);
    }

    // ---- the order

    private static void neighbours() {
        Edge.of("IV", "rows in which no two next to each other are of one POET");
        PoetsBook x = new PoetsBook();
        add(x, 0, 0, 1);
        add(x, 0, 0, 1);
        add(x, 1, 0, 1);
        add(x, 0, 0, 1);
        Edge.due("two", x.order(3), PoetsBook.NONE);
        Edge.due("one between", x.order(7), 0);
        row(x, 0, 2, 1);
        Edge.due("three and one", x.order(15), PoetsBook.NONE);
        row(x, 0, 2, 1);
        x.translated(2, 0, 50);
        Edge.due("a translator isn't its poet", x.order(5), 0);
        Edge.of("IV", "or one of a POET whom the LEAVE of the other one (unless that is FREE in all LANDS) "
                + "tells as apart.");
        PoetsBook y = ruled("free 0 0;");
        add(y, 0, 0, 0, 1, "lands 0 1;apart 19 1;");
        add(y, 1, 0, 0, 1, "lands 0 1;");
        add(y, 19, 0, 0, 1, "lands 0 1;");
        add(y, 2, 0, 0, 1, "lands 0 1;apart 0 2;");
        Edge.due("0 tells 1", Check.lay(y, "AB"), PoetsBook.NONE);
        Edge.due("1 is told by 0", Check.lay(y, "BA"), PoetsBook.NONE);
        Edge.due("0 tells 19", Check.lay(y, "AC"), PoetsBook.NONE);
        Edge.due("3 tells 0", Check.lay(y, "AD"), PoetsBook.NONE);
        Edge.due("none tells another", Check.lay(y, "BCD"), 0);
        Edge.due("order", y.order(15), PoetsBook.NONE);
        y.dead(1, 0);
        Edge.due("1 is free, not who tells it", Check.lay(y, "AB"), PoetsBook.NONE);
        y.dead(0, 0);
        Edge.due("0 is free", Check.lay(y, "AB"), 0);
        Edge.due("0 is free, 3 still tells it", Check.lay(y, "AD"), PoetsBook.NONE);
        y.book(3, 0);
        Edge.due("0 isn't free in land 1", Check.lay(y, "AB"), PoetsBook.NONE);
        Check.leave(y, 0, "lands 0 1;");
        Edge.due("its latest leave tells none", Check.lay(y, "AB"), 0);
    }

    private static void stepsBack() {
        Edge.of("IV", "STEPS BACK: the sum of years by which a POEM is older than the one ahead of it.");
        PoetsBook x = new PoetsBook();
        int[] years = {0, 2100, 1000, 1001, 1000};
        for (int c = 0; c < years.length; c++) {
            add(x, c, years[c], 0, 1, "lands 0;");
        }
        Edge.due("2100 ahead of 0", Check.lay(x, "BA"), 2100);
        Edge.due("0 ahead of 2100", Check.lay(x, "AB"), 0);
        Edge.due("as old", Check.lay(x, "CE"), 0);
        Edge.due("a year", Check.lay(x, "DE"), 1);
        Edge.due("only what goes back", Check.lay(x, "BACD"), 2100);
        Edge.due("each time", Check.lay(x, "BDEA"), 1099 + 1 + 1000);
        Edge.of("IV", "BEST: the fewest; then the least row (of CANDIDATES).");
        Edge.due("none", x.order(31), 0);
        row(x, 0, 2, 4, 3, 1);
        PoetsBook y = new PoetsBook();
        int[] poets = {0, 0, 1};
        int[] its = {1900, 1910, 1920};
        for (int c = 0; c < 3; c++) {
            add(y, poets[c], its[c], 0, 1, "lands 0;");
        }
        Edge.due("a step at the row's end", y.order(7), 10);
        row(y, 0, 2, 1);
        PoetsBook w = new PoetsBook();
        int[] late = {1930, 1920, 1910, 1940, 1950};
        int[] hands = {0, 0, 1, 2, 3};
        for (int c = 0; c < 5; c++) {
            add(w, hands[c], late[c], 0, 1, c == 2 ? "lands 0;apart 2 3;" : "lands 0;");
        }
        Edge.due("a step at its beginning, though a greater row", w.order(7), 10);
        row(w, 1, 2, 0);
        Edge.due("a step at its beginning, and none behind it", w.order(31), 10);
        row(w, 1, 2, 0, 3, 4);
        PoetsBook z = new PoetsBook();
        for (int c = 0; c < 10; c++) {
            add(z, c % 2, 1900, 0, 1, "lands 0;");
        }
        Edge.due("ten alike", z.order(1023), 0);
        row(z, 0, 1, 2, 3, 4, 5, 6, 7, 8, 9);
        Edge.due("from an odd one", z.order(1022), 0);
        row(z, 1, 2, 3, 4, 5, 6, 7, 8, 9);
        Edge.due("too many of one", z.order(1 | 4 | 16 | 2), PoetsBook.NONE);
    }

    private static void ordering() {
        Edge.of(27, "BEST ORDER of a set of ALLOWED CANDIDATES (1 .. 10 of them) is the row: STEPS BACK");
        PoetsBook x = new PoetsBook();
        for (int c = 0; c < 14; c++) {
            add(x, c, 2000 - c, 0, 1, "lands 0;");
        }
        Edge.due("one", x.order(1 << 13), 0);
        row(x, 13);
        Edge.due("ten, the last ones", x.order(1023 << 4), 0);
        row(x, 13, 12, 11, 10, 9, 8, 7, 6, 5, 4);
        Edge.of(27, "NONE: there is none (the row stays); RANGE; STATE: one isn't ALLOWED.");
        int[] none = {0, 2047, 2047 << 3, (1 << 14) - 1, 1 << 14, 1 << 14 | 1, -1, MIN, MAX};
        for (int set : none) {
            Edge.due("set " + set, x.order(set), PoetsBook.RANGE);
        }
        row(x, 13, 12, 11, 10, 9, 8, 7, 6, 5, 4);
        Check.leave(x, 3, "lands 0;apart 2;");
        Edge.due("there is none", x.order(12), PoetsBook.NONE);
        row(x, 13, 12, 11, 10, 9, 8, 7, 6, 5, 4);
        x.gone(1, 0);
        Edge.due("one isn't", x.order(2), PoetsBook.STATE);
        Edge.due("one isn't, nor is there any", x.order(2 | 12), PoetsBook.STATE);
        Edge.due("eleven, one isn't", x.order(2047), PoetsBook.RANGE);
        row(x, 13, 12, 11, 10, 9, 8, 7, 6, 5, 4);
        Edge.due("a new row", x.order(1), 0);
        row(x, 0);
    }

    private static void laying() {
        Edge.of(28, "THE TAPE is a row of CANDIDATES (a byte each, its number and 65; 1 .. 14, each once)");
        PoetsBook x = new PoetsBook();
        for (int c = 0; c < 14; c++) {
            add(x, c, 2000, 0, 1, "lands 0;");
        }
        Edge.due("one", Check.lay(x, "N"), 0);
        row(x, 13);
        Edge.due("fourteen", Check.lay(x, "NMLKJIHGFEDCBA"), 0);
        row(x, 13, 12, 11, 10, 9, 8, 7, 6, 5, 4, 3, 2, 1, 0);
        Edge.of(28, "NONE: it is none");
        String[] none = {"", "@", "O", "a", "0", "A B", "A\n", " A", "A;", "\u00c1", "\u0000", "AA", "ABA", "NN",
            "ABCDEFGHIJKLMNA", "ABCDEFGHIJKLMNO", "A".repeat(1600)};
        for (String text : none) {
            Edge.due("'" + text + "'", Check.lay(x, text), PoetsBook.NONE);
        }
        row(x, 13, 12, 11, 10, 9, 8, 7, 6, 5, 4, 3, 2, 1, 0);
        PoetsBook y = new PoetsBook();
        add(y, 0, 2000, 0, 1, "lands 0;");
        add(y, 0, 1990, 0, 1, "lands 0;");
        add(y, 1, 1980, 0, 1, "lands 1;");
        Edge.due("the third of two would be none", Check.lay(y, "AD"), PoetsBook.NONE);
        Edge.of(28, "STATE: one isn't ALLOWED; NONE: two can't stand beside each other (in this order; the row stays)");
        Edge.due("it is the row", Check.lay(y, "B"), 0);
        Edge.due("one isn't", Check.lay(y, "C"), PoetsBook.STATE);
        Edge.due("two can't", Check.lay(y, "AB"), PoetsBook.NONE);
        Edge.due("two can't, and one isn't", Check.lay(y, "ABC"), PoetsBook.STATE);
        Edge.due("it is none, and one isn't", Check.lay(y, "CC"), PoetsBook.NONE);
        Edge.due("it is none, and two can't", Check.lay(y, "ABZ"), PoetsBook.NONE);
        row(y, 1);
        Check.leave(y, 2, "lands 0;");
        Edge.due("now it is", Check.lay(y, "ACB"), 20);
        row(y, 0, 2, 1);
    }

    // ---- the row as it is printed

    private static void pagesOfTheRow() {
        Edge.of("IV", "each begins on a new page, the first behind front pages (numbered from 1)");
        PoetsBook x = ruled("page 6;title 0;front 0;");
        add(x, 0, 0, 13);
        add(x, 1, 0, 1);
        add(x, 2, 0, 7);
        Check.lay(x, "ABC");
        int[] fronts = {0, 1, 30};
        for (int front : fronts) {
            Check.rules(x, "page 6;title 0;front " + front + ";");
            Edge.due("the first", x.place(0, 1), front + 1);
            Edge.due("the second", x.place(1, 1), front + 4);
            Edge.due("the third", x.place(2, 1), front + 5);
            Edge.due("pages in all", x.printed(1), front + 6);
        }
        Edge.of("IV", "sheets: as many as hold all pages.");
        int[] sheets = {2, 3, 4, 5, 6, 7, 32};
        int[] dues = {3, 2, 2, 2, 1, 1, 1};
        for (int k = 0; k < sheets.length; k++) {
            Check.rules(x, "page 6;title 0;front 0;sheets 1;sheet " + sheets[k] + ";");
            Edge.due("sheets of " + sheets[k], x.printed(2), dues[k]);
            Edge.due("empty pages of the last", x.printed(3), dues[k] * sheets[k] - 6);
        }
    }

    private static void places() {
        Edge.of(29, "all as they are today.");
        PoetsBook x = ruled(PLAIN);
        add(x, 0, 0, 1);
        add(x, 1, 0, 1);
        Check.lay(x, "BA");
        Edge.due("begins", x.place(1, 1), 2);
        Check.edition(x, 1, lines(7));
        Edge.due("a new edition", x.place(1, 1), 3);
        Edge.due("its pages", x.place(0, 2), 2);
        Edge.due("its number", x.place(0, 3), 1);
        Check.leave(x, 1, "lands 0;edition 0;");
        Edge.due("a new leave", x.place(1, 1), 2);
        Edge.due("its pages", x.place(0, 2), 1);
        Edge.due("its number", x.place(0, 3), 0);
        Edge.of(29, "NONE when there is none such");
        int[] none = {-1, 4, MIN, MAX};
        for (int what : none) {
            Edge.due("what " + what, x.place(0, what), PoetsBook.NONE);
        }
        int[] others = {-1, 2, 14, MIN, MAX};
        for (int i : others) {
            for (int what = -1; what < 5; what++) {
                Edge.due("place " + i, x.place(i, what), PoetsBook.NONE);
            }
        }
        Edge.of(29, "(or it isn't ALLOWED any more: what 1 .. 3 of all: NONE)");
        x.gone(0, 0);
        for (int what = 1; what < 4; what++) {
            Edge.due("of it", x.place(1, what), PoetsBook.NONE);
            Edge.due("of the other one", x.place(0, what), PoetsBook.NONE);
        }
        Edge.due("the candidate", x.place(1, 0), 0);
        Edge.due("the other candidate", x.place(0, 0), 1);
        Check.leave(x, 0, "lands 0;");
        Edge.due("allowed again", x.place(1, 1), 2);
    }

    private static void printing() {
        Edge.of(30, "1: pages in all (with front), 2: sheets, 3: empty pages of the last sheet.");
        PoetsBook x = ruled("front 0;");
        for (int what = 0; what < 4; what++) {
            Edge.due("nothing at all", x.printed(what), 0);
        }
        int[] fronts = {1, 7, 8, 9, 16, 17};
        for (int front : fronts) {
            Check.rules(x, "front " + front + ";");
            Edge.due("front alone", x.printed(1), front);
            Edge.due("sheets", x.printed(2), (front + 7) / 8);
            Edge.due("empty", x.printed(3), (front + 7) / 8 * 8 - front);
        }
        Edge.of(30, "NONE for others, or if one isn't ALLOWED any more (what 0 is told).");
        int[] none = {-1, 4, MIN, MAX};
        for (int what : none) {
            Edge.due("what " + what, x.printed(what), PoetsBook.NONE);
        }
        add(x, 0, 0, 1);
        add(x, 1, 0, 1);
        Check.lay(x, "AB");
        x.gone(1, 0);
        Edge.due("what 0", x.printed(0), 2);
        for (int what = 1; what < 4; what++) {
            Edge.due("what " + what, x.printed(what), PoetsBook.NONE);
        }
    }

    private static void index(String[] texts, int... dues) {
        PoetsBook x = new PoetsBook();
        StringBuilder row = new StringBuilder();
        for (int p = 0; p < texts.length; p++) {
            x.poem(p, 0, 0, 0);
            Check.edition(x, p, texts[p]);
            Check.leave(x, p, "lands 0;");
            row.append((char) (65 + x.candidate(p)));
        }
        Edge.due("lay", Check.lay(x, row.toString()), 0);
        int[] got = new int[texts.length];
        for (int i = 0; i < got.length; i++) {
            got[i] = x.index(i);
        }
        Edge.dues("index", got, dues);
    }

    private static void indexes() {
        Edge.of("IV", "their first LINES by rising words (each word by its letters, a shorter one ahead of one that "
                + "begins with it; a shorter LINE likewise)");
        index(new String[] {"b", "a"}, 1, 0);
        index(new String[] {"ab", "a"}, 1, 0);
        index(new String[] {"a b", "a"}, 1, 0);
        // By words, not by signs, and never by what stands behind the first line.
        index(new String[] {"ab", "a z"}, 1, 0);
        index(new String[] {"b;a", "a;b", "a/c"}, 1, 2, 0);
        index(new String[] {"z", "aa", "a"}, 2, 1, 0);
        index(new String[] {"zzzzzzzzzzzz", "zzzzzzzzzzz", "zzzzzzzzzzzy"}, 1, 2, 0);
        index(new String[] {"a a a a a a a b", "a a a a a a a a", "a a a a a a a"}, 2, 1, 0);
        index(new String[] {"b a", "a b", "a a", "b"}, 2, 1, 3, 0);
        Edge.of("IV", "alike ones by their place.");
        index(new String[] {"b", "a", "b", "a", "a+;c", "b/a"}, 1, 3, 4, 0, 2, 5);
        Edge.of(31, "its place in the row; NONE: none such, or one isn't ALLOWED any more.");
        PoetsBook x = new PoetsBook();
        Edge.due("no row", x.index(0), PoetsBook.NONE);
        add(x, 0, 0, 1);
        add(x, 1, 0, 1);
        Check.lay(x, "BA");
        Edge.due("the first", x.index(0), 0);
        Edge.due("the second", x.index(1), 1);
        int[] none = {-1, 2, 14, MIN, MAX};
        for (int i : none) {
            Edge.due("index " + i, x.index(i), PoetsBook.NONE);
        }
        Check.edition(x, 1, "b");
        Edge.due("as it is printed today", x.index(0), 1);
        x.gone(0, 0);
        Edge.due("one isn't", x.index(0), PoetsBook.NONE);
        Edge.due("one isn't", x.index(1), PoetsBook.NONE);
    }

    // ---- a poem that is withdrawn

    private static void withdrawals() {
        Edge.of("IV", "at its place come 0, 1 or 2 CANDIDATES that aren't in the row, are ALLOWED and can stand there "
                + "(by the rule of ORDER), and 0 .. 3 empty pages.");
        PoetsBook x = ruled(PLAIN);
        add(x, 0, 9, 18);
        add(x, 1, 9, 1);
        Check.lay(x, "AB");
        comes(x, 0, 0, 0, -1, -1, 3);
        Check.edition(x, 0, lines(24));
        Edge.due("four pages", x.about(0, 3), 4);
        comes(x, 0, 1, 0, -1, -1, 0);
        add(x, 2, 0, 1);
        comes(x, 0, 0, 1, 2, -1, 3);
        add(x, 3, 0, 1);
        comes(x, 0, 0, 2, 2, 3, 2);
        add(x, 4, 0, 1);
        comes(x, 0, 0, 2, 2, 3, 2);
        // One that isn't allowed, one that is of the next one's poet.
        add(x, 5, 0, 0, 24, "lands 1;");
        add(x, 1, 99, 24);
        comes(x, 0, 0, 2, 2, 3, 2);
        // It may come ahead of another one, if that parts it from its poet.
        add(x, 1, 99, 18);
        comes(x, 0, 0, 2, 7, 2, 0);
        PoetsBook y = ruled(PLAIN);
        add(y, 0, 0, 1);
        add(y, 1, 0, 1);
        add(y, 2, 0, 1);
        add(y, 3, 1900, 50, 1, "lands 0;apart 0;");
        add(y, 4, 1900, 40, 1, "lands 0;apart 2;");
        add(y, 0, 1900, 30, 1, "lands 0;");
        add(y, 5, 1900, 20, 1, "lands 0;");
        Check.lay(y, "ABC");
        comes(y, 1, 0, 1, 6, -1, 0);
        comes(y, 0, 0, 1, 3, -1, 0);
        comes(y, 2, 0, 2, 3, 4, 0);
        Edge.of("IV", "MOVED are those behind it that begin on another page than they did.");
        PoetsBook z = ruled(PLAIN);
        for (int c = 0; c < 14; c++) {
            add(z, c, 0, 24);
        }
        Check.lay(z, "ABCDEFGHIJKLMN");
        for (int i = 0; i < 14; i++) {
            comes(z, i, 13 - i, 0, -1, -1, 0);
        }
    }

    private static void bestWithdrawals() {
        Edge.of("IV", "The fewest MOVED; then the fewest empty pages; then the most WORTH of what comes");
        PoetsBook x = ruled(PLAIN);
        add(x, 0, 0, 13);
        add(x, 1, 0, 1);
        add(x, 2, 99, 19);
        add(x, 3, 0, 1);
        Check.lay(x, "AB");
        // Worth 99 on four pages would move one; none of worth with two empty pages moves none.
        comes(x, 0, 0, 1, 3, -1, 2);
        add(x, 4, 0, 7);
        comes(x, 0, 0, 2, 3, 4, 0);
        add(x, 5, 1, 13);
        comes(x, 0, 0, 1, 5, -1, 0);
        add(x, 6, 2, 7);
        comes(x, 0, 0, 2, 3, 6, 0);
        comes(x, 1, 0, 2, 2, 6, 0);
        Edge.of("IV", "then the least row (none ahead of one, one ahead of two that begin so).");
        PoetsBook y = ruled(PLAIN);
        add(y, 0, 0, 1);
        add(y, 1, 0, 1);
        add(y, 2, 5, 1);
        Check.lay(y, "A");
        // The last of the row moves nobody: worth 0 comes ahead of worth 5, as a lesser row.
        comes(y, 0, 0, 2, 1, 2, 0);
        add(y, 3, 0, 1);
        comes(y, 0, 0, 2, 1, 2, 0);
        PoetsBook z = ruled(PLAIN);
        add(z, 0, 0, 1);
        add(z, 1, 5, 1);
        add(z, 2, 0, 1);
        Check.lay(z, "A");
        comes(z, 0, 0, 1, 1, -1, 0);
        add(z, 3, 5, 1);
        comes(z, 0, 0, 2, 1, 3, 0);
        add(z, 4, 5, 1);
        comes(z, 0, 0, 2, 1, 3, 0);
        PoetsBook u = ruled(PLAIN);
        add(u, 0, 0, 1);
        add(u, 1, 0, 1);
        Check.lay(u, "A");
        comes(u, 0, 0, 0, -1, -1, 0);
        PoetsBook v = ruled(PLAIN);
        add(v, 0, 1900, 5, 1, "lands 0;apart 3;");
        add(v, 1, 4, 1);
        add(v, 2, 3, 1);
        add(v, 3, 2, 1);
        Check.lay(v, "BA");
        v.withdraw(0);
        // What stood in the row once may come into another one.
        Check.lay(v, "C");
        comes(v, 0, 0, 2, 0, 1, 0);
        Check.lay(v, "DC");
        comes(v, 1, 0, 2, 1, 0, 0);
        comes(v, 0, 0, 1, 0, -1, 0);
    }

    private static void withdrawing() {
        Edge.of(32, "WITHDRAWN, the i-th of the row (which stays as it is)");
        PoetsBook x = ruled(PLAIN);
        add(x, 0, 0, 1);
        add(x, 1, 0, 1);
        add(x, 2, 9, 1);
        Edge.due("no row", x.withdraw(0), PoetsBook.RANGE);
        Check.lay(x, "AB");
        x.again(2, 0);
        Edge.due("withdraw", x.withdraw(0), 0);
        row(x, 0, 1);
        Edge.due("what again() told stays", x.lacking(1), 2);
        Edge.of(32, "how many are MOVED; RANGE; STATE: another one isn't ALLOWED, or it has no PAGES itself");
        int[] none = {-1, 2, 14, MIN, MAX};
        for (int i : none) {
            Edge.due("withdraw " + i, x.withdraw(i), PoetsBook.RANGE);
        }
        x.gone(0, 0);
        Edge.due("it isn't allowed itself", x.withdraw(0), 0);
        Edge.due("another one isn't", x.withdraw(1), PoetsBook.STATE);
        Edge.due("RANGE ahead of STATE", x.withdraw(2), PoetsBook.RANGE);
        Check.edition(x, 0, "a+;a+;a+;a+;a+;a+;a");
        Edge.due("it has no pages", x.withdraw(0), PoetsBook.STATE);
        Check.leave(x, 0, "lands 0;edition 2;");
        Edge.due("it has no such edition", x.withdraw(0), PoetsBook.STATE);
        Check.leave(x, 0, "lands 0;edition 0;");
        Edge.due("it has pages", x.withdraw(0), 0);
        Edge.of(32, "NONE: there is no such way.");
        PoetsBook y = ruled(PLAIN);
        add(y, 0, 0, 1);
        add(y, 1, 0, 1);
        add(y, 0, 0, 1);
        add(y, 0, 9, 1);
        Check.lay(y, "ABC");
        Edge.due("its neighbours are of one poet", y.withdraw(1), PoetsBook.NONE);
        Edge.due("its neighbours part", y.withdraw(0), 0);
        add(y, 2, 0, 24);
        comes(y, 1, 1, 1, 4, -1, 0);
        add(y, 3, 0, 1);
        comes(y, 1, 0, 1, 5, -1, 0);
    }

    private static void coming() {
        Edge.of(33, "Of the latest withdraw() that told a number");
        PoetsBook x = ruled(PLAIN);
        add(x, 0, 0, 1);
        add(x, 1, 0, 1);
        add(x, 0, 0, 1);
        add(x, 2, 9, 1);
        add(x, 3, 0, 1);
        Check.lay(x, "ABC");
        comes(x, 1, 0, 1, 3, -1, 0);
        Edge.due("RANGE tells none", x.withdraw(3), PoetsBook.RANGE);
        Edge.due("still that one", x.comes(1), 3);
        x.gone(3, 0);
        x.gone(4, 0);
        Edge.due("NONE tells none", x.withdraw(1), PoetsBook.NONE);
        Edge.due("still that one", x.comes(1), 3);
        x.gone(0, 0);
        Edge.due("STATE tells none", x.withdraw(1), PoetsBook.STATE);
        Edge.due("still that one", x.comes(1), 3);
        comes(x, 0, 0, 0, -1, -1, 1);
        Edge.of(33, "NONE for others, ahead of any");
        int[] none = {-1, 4, MIN, MAX};
        for (int what : none) {
            Edge.due("comes " + what, x.comes(what), PoetsBook.NONE);
        }
        PoetsBook fresh = new PoetsBook();
        for (int what = -1; what < 5; what++) {
            Edge.due("ahead of any", fresh.comes(what), PoetsBook.NONE);
        }
        Edge.of(33, "or if a candidate(), order() or lay() that told STEPS came since.");
        PoetsBook y = ruled(PLAIN);
        add(y, 0, 0, 1);
        add(y, 0, 0, 1);
        Check.lay(y, "A");
        y.withdraw(0);
        Edge.due("order() that told none", y.order(3), PoetsBook.NONE);
        Edge.due("order() that told RANGE", y.order(0), PoetsBook.RANGE);
        Edge.due("lay() that told none", Check.lay(y, "AB"), PoetsBook.NONE);
        Edge.due("lay() that told none", Check.lay(y, ""), PoetsBook.NONE);
        Edge.due("candidate() that told STATE", y.candidate(0), PoetsBook.STATE);
        Edge.due("candidate() that told RANGE", y.candidate(2), PoetsBook.RANGE);
        Edge.due("still known", y.comes(0), 0);
        Edge.due("order() that told steps", y.order(1), 0);
        for (int what = 0; what < 4; what++) {
            Edge.due("behind order()", y.comes(what), PoetsBook.NONE);
        }
        y.withdraw(0);
        Edge.due("known again", y.comes(3), 0);
        Edge.due("lay() that told steps", Check.lay(y, "A"), 0);
        Edge.due("behind lay()", y.comes(3), PoetsBook.NONE);
        y.withdraw(0);
        Edge.due("known again", y.comes(3), 0);
        Edge.due("candidate()", add(y, 1, 0, 1), 2);
        Edge.due("behind candidate()", y.comes(3), PoetsBook.NONE);
    }

    // ---- royalties, and printing again

    private static void partedRoyalties() {
        Edge.of("IV", "pence parted by LINES as PRINTED in the row: the whole part of each");
        PoetsBook x = new PoetsBook();
        add(x, 0, 0, 1);
        add(x, 1, 0, 2);
        add(x, 2, 0, 3);
        Check.lay(x, "ABC");
        x.royalty(6);
        shares(x, 1, 2, 3);
        x.royalty(600);
        shares(x, 100, 200, 300);
        Check.edition(x, 0, lines(7));
        x.royalty(12);
        shares(x, 7, 2, 3);
        Check.leave(x, 0, "lands 0;edition 0;");
        Edge.of("IV", "of what is left over one each to the greatest rests (of alike ones the earlier in the row)");
        // 7 by sixths: 1 1/6, 2 2/6, 3 3/6.
        x.royalty(7);
        shares(x, 1, 2, 4);
        // 11: 1 5/6, 3 4/6, 5 3/6: two are left over.
        x.royalty(11);
        shares(x, 2, 4, 5);
        // 1: 1/6, 2/6, 3/6.
        x.royalty(1);
        shares(x, 0, 0, 1);
        PoetsBook y = new PoetsBook();
        for (int c = 0; c < 4; c++) {
            add(y, c, 0, 3);
        }
        Check.lay(y, "CADB");
        y.royalty(1);
        shares(y, 0, 0, 1, 0);
        y.royalty(2);
        shares(y, 1, 0, 1, 0);
        y.royalty(3);
        shares(y, 1, 0, 1, 1);
        y.royalty(4);
        shares(y, 1, 1, 1, 1);
        Edge.of("IV", "What a POEM has goes to its TRANSLATOR by hundredths (cut), the rest to its POET.");
        PoetsBook z = new PoetsBook();
        add(z, 0, 0, 1);
        add(z, 1, 0, 1);
        z.translated(0, 1, 99);
        z.translated(1, 0, 1);
        Check.lay(z, "AB");
        z.royalty(2);
        shares(z, 1, 1);
        z.royalty(200);
        shares(z, 1 + 1, 99 + 99);
        z.royalty(198);
        // 99 each: 98 01/100 and 99/100, cut.
        shares(z, 1 + 0, 98 + 99);
        Check.lay(z, "A");
        z.royalty(9999999);
        shares(z, 100000, 9899999);
    }

    private static void royalties() {
        Edge.of(34, "ROYALTY of so many pence (0 .. 9999999) is parted: 1; RANGE; STATE: no row, or one isn't ALLOWED.");
        PoetsBook x = new PoetsBook();
        int[] none = {-1, 10000000, MIN, MAX};
        for (int pence : none) {
            Edge.due("RANGE ahead of STATE, " + pence, x.royalty(pence), PoetsBook.RANGE);
        }
        Edge.due("no row", x.royalty(0), PoetsBook.STATE);
        add(x, 0, 0, 30);
        add(x, 1, 0, 30);
        Edge.due("candidates, no row", x.royalty(0), PoetsBook.STATE);
        Check.lay(x, "AB");
        for (int pence : none) {
            Edge.due("RANGE, " + pence, x.royalty(pence), PoetsBook.RANGE);
        }
        Edge.due("nothing", x.royalty(0), 1);
        shares(x);
        Edge.due("the most", x.royalty(9999999), 1);
        shares(x, 5000000, 4999999);
        Edge.of(35, "What a POET had of the latest royalty() that told 1; 0 without; RANGE: no such POET.");
        Edge.due("RANGE", x.royalty(10000000), PoetsBook.RANGE);
        shares(x, 5000000, 4999999);
        x.gone(1, 0);
        Edge.due("one isn't allowed", x.royalty(4), PoetsBook.STATE);
        shares(x, 5000000, 4999999);
        Check.lay(x, "A");
        shares(x, 5000000, 4999999);
        Edge.due("another row", x.royalty(4), 1);
        shares(x, 4);
        int[] poets = {-1, 20, 32, MIN, MAX};
        for (int poet : poets) {
            Edge.due("share " + poet, x.share(poet), PoetsBook.RANGE);
        }
        shares(new PoetsBook());
        PoetsBook full = new PoetsBook();
        for (int c = 0; c < 14; c++) {
            add(full, c, 0, 30);
        }
        Check.lay(full, "ABCDEFGHIJKLMN");
        Edge.due("the most, by fourteen of thirty lines", full.royalty(9999999), 1);
        // 714285 9/14 each, of which nine are left over.
        shares(full, 714286, 714286, 714286, 714286, 714286, 714286, 714286, 714286, 714286,
                714285, 714285, 714285, 714285, 714285);
    }

    private static void againAndLacking() {
        Edge.of("IV", "which of the row MAY not in one of them at least, as KNOWN today.");
        PoetsBook x = ruled("free 5 0;");
        add(x, 0, 0, 0, 1, "lands 0 1;until 100;");
        add(x, 1, 0, 0, 1, "lands 0 1 2;");
        Check.lay(x, "BA");
        Edge.due("both may", x.again(3, 100), 0);
        Edge.due("one may not", x.again(3, 101), 1);
        Edge.due("one may not", x.lacking(0), 0);
        Edge.due("one may not", x.lacking(1), 3);
        Edge.due("in all lands", x.again(63, 0), 2);
        Edge.due("in all lands", x.lacking(0), 56);
        Edge.due("in all lands", x.lacking(1), 60);
        x.dead(0, 0);
        Edge.due("free counts", x.again(32, 0), 1);
        Edge.due("free counts", x.lacking(1), 0);
        x.pass(1);
        x.gone(1, 0);
        Edge.due("told today", x.again(1, 0), 1);
        Edge.due("told today", x.lacking(0), 1);
        Edge.of(36, "how many of the row MAY not; RANGE: no such LANDS (1 .. 63), day.");
        int[] none = {0, 64, -1, MIN, MAX};
        for (int lands : none) {
            Edge.due("lands " + lands, x.again(lands, 0), PoetsBook.RANGE);
        }
        int[] days = {-1, 30000, MIN, MAX};
        for (int day : days) {
            Edge.due("day " + day, x.again(1, day), PoetsBook.RANGE);
        }
        Edge.due("no row", new PoetsBook().again(63, 29999), 0);
        Edge.of(37, "by the latest again() that was not RANGE");
        Edge.due("RANGE told nothing", x.lacking(0), 1);
        x.again(2, 101);
        Edge.due("the latest", x.lacking(0), 2);
        Edge.due("the latest", x.lacking(1), 2);
        x.dead(0, 5);
        Check.leave(x, 0, "lands 1;");
        Edge.due("as it was told", x.lacking(1), 2);
        Edge.of(37, "(0: in all it MAY); NONE: none such, ahead of any, or if the row was made anew since.");
        Edge.due("ahead of any", new PoetsBook().lacking(0), PoetsBook.NONE);
        int[] others = {-1, 2, 14, MIN, MAX};
        for (int i : others) {
            Edge.due("lacking " + i, x.lacking(i), PoetsBook.NONE);
        }
        Edge.due("the row stays", Check.lay(x, "AA"), PoetsBook.NONE);
        Edge.due("the row stays", x.order(2), PoetsBook.STATE);
        Edge.due("the row stays", x.lacking(0), 2);
        x.book(2, 0);
        Edge.due("made anew", x.order(1), 0);
        Edge.due("made anew", x.lacking(0), PoetsBook.NONE);
        Edge.due("again", x.again(2, 0), 0);
        Edge.due("in all it may", x.lacking(0), 0);
        Edge.due("laid anew, though alike", Check.lay(x, "A"), 0);
        Edge.due("laid anew, though alike", x.lacking(0), PoetsBook.NONE);
        Edge.due("ahead of any in this row", x.lacking(0), PoetsBook.NONE);
    }

    private static void asking() {
        Edge.of(38, "HOLDERS who must be asked by it, as bits (0 ahead of any, or as lacking()).");
        PoetsBook x = new PoetsBook();
        Edge.due("ahead of any", x.ask(), 0);
        int[] holders = {0, 19, 19, 7};
        for (int c = 0; c < 4; c++) {
            x.poem(c, 0, holders[c], 0);
            Check.edition(x, c, "a");
            Check.leave(x, c, c == 3 ? "lands 0 1;" : "lands 0;");
            x.candidate(c);
        }
        Check.lay(x, "ABCD");
        Edge.due("ahead of any", x.ask(), 0);
        Edge.due("three may not", x.again(2, 0), 3);
        Edge.due("two holders", x.ask(), 1 | 1 << 19);
        Edge.due("RANGE", x.again(0, 0), PoetsBook.RANGE);
        Edge.due("the latest that wasn't RANGE", x.ask(), 1 | 1 << 19);
        Edge.due("all may", x.again(1, 0), 0);
        Edge.due("nobody", x.ask(), 0);
        Edge.due("four may not", x.again(4, 0), 4);
        Edge.due("three holders", x.ask(), 1 | 1 << 7 | 1 << 19);
        Edge.due("the row stays", Check.lay(x, "Z"), PoetsBook.NONE);
        Edge.due("three holders", x.ask(), 1 | 1 << 7 | 1 << 19);
        Check.lay(x, "AB");
        Edge.due("the row was made anew", x.ask(), 0);
        x.again(4, 0);
        Edge.due("two holders", x.ask(), 1 | 1 << 19);
        x.order(1);
        Edge.due("the row was made anew", x.ask(), 0);
    }

    private static void counts() {
        Edge.of(39, "5: THE BOOK's LANDS, 6: its day. NONE for others.");
        PoetsBook x = new PoetsBook();
        x.pass(9);
        x.poem(0, 0, 0, 0);
        x.poem(0, 0, 0, 0);
        x.poem(0, 0, 0, 0);
        x.leave(0);
        x.leave(0);
        x.candidate(2);
        x.feed(0, 0, 0, 0, 0);
        x.end(5);
        x.book(33, 77);
        int[] dues = {9, 3, 2, 1, 5, 33, 77};
        for (int what = 0; what < dues.length; what++) {
            Edge.due("count " + what, x.count(what), dues[what]);
        }
        int[] none = {-1, 7, MIN, MAX};
        for (int what : none) {
            Edge.due("count " + what, x.count(what), PoetsBook.NONE);
        }
    }
}
