/** Promises 21 to 39: the book. */
public final class BookTest {
    private BookTest() {
    }

    public static void main(String[] args) {
        books();
        candidates();
        allowed();
        printedEditions();
        fees();
        choices();
        bestChoices();
        chosenSets();
        orders();
        apart();
        laid();
        pagesOfTheRow();
        indexes();
        withdrawals();
        withdrawalStates();
        royalties();
        again();
        counts();
        Check.finish();
    }

    /** A poem with one edition of so many lines, and a leave. */
    private static int poem(PoetsBook x, int poet, int year, int worth, int lines, String leave) {
        int p = x.poem(poet, year, poet, worth);
        StringBuilder text = new StringBuilder("a");
        for (int i = 1; i < lines; i++) {
            text.append(";a");
        }
        Check.edition(x, p, text.toString());
        if (leave != null) {
            Check.leave(x, p, leave);
        }
        return x.candidate(p);
    }

    private static void row(PoetsBook x, int... dues) {
        Check.due("27: length", x.printed(0), dues.length);
        for (int i = 0; i < dues.length; i++) {
            Check.due("29: place(" + i + ", 0)", x.place(i, 0), dues[i]);
        }
    }

    private static void books() {
        PoetsBook x = new PoetsBook();
        Check.due("21: 0", x.book(0, 0), PoetsBook.RANGE);
        Check.due("21: 64", x.book(64, 0), PoetsBook.RANGE);
        Check.due("21: -1", x.book(-1, 0), PoetsBook.RANGE);
        Check.due("21: day -1", x.book(1, -1), PoetsBook.RANGE);
        Check.due("21: day 30000", x.book(1, 30000), PoetsBook.RANGE);
        Check.due("21: they stay", x.count(5), 1);
        Check.due("21: ", x.book(63, 29999), 1);
        Check.due("21: lands", x.count(5), 63);
        Check.due("21: day", x.count(6), 29999);
        PoetsBook y = new PoetsBook();
        poem(y, 0, 0, 0, 1, "lands 0;");
        y.order(1);
        y.book(2, 5);
        Check.due("21: the row stays", y.printed(0), 1);
    }

    private static void candidates() {
        PoetsBook x = new PoetsBook();
        Check.due("22: no poem", x.candidate(0), PoetsBook.RANGE);
        for (int p = 0; p < 15; p++) {
            x.poem(0, 0, 0, 0);
        }
        Check.due("22: -1", x.candidate(-1), PoetsBook.RANGE);
        for (int c = 0; c < 14; c++) {
            Check.due("22: candidate", x.candidate(14 - c), c);
        }
        Check.due("22: it is one, ahead of FULL", x.candidate(14), PoetsBook.STATE);
        Check.due("22: full", x.candidate(0), PoetsBook.FULL);
        Check.due("22: RANGE ahead of FULL", x.candidate(15), PoetsBook.RANGE);
        Check.due("23: the poem", x.about(0, 0), 14);
        Check.due("23: no edition", x.about(0, 1), 0);
        Check.due("23: no edition", x.about(0, 2), -1);
        Check.due("23: no edition", x.about(0, 3), -1);
        Check.due("23: no edition", x.about(0, 4), 0);
        Check.due("23: what 5", x.about(0, 5), -9);
        Check.due("23: what -1", x.about(0, -1), -9);
        Check.due("23: 14", x.about(14, 0), -9);
        Check.due("23: -1", x.about(-1, 0), -9);
    }

    private static void allowed() {
        PoetsBook x = new PoetsBook();
        Check.rules(x, "page 6;title 4;free 2 0;");
        poem(x, 0, 0, 0, 1, "lands 0 1;until 100;");
        x.book(3, 100);
        Check.due("23: in both lands", x.about(0, 1), 1);
        x.book(3, 101);
        Check.due("23: too late", x.about(0, 1), 0);
        x.book(7, 100);
        Check.due("23: not in land 2", x.about(0, 1), 0);
        x.dead(0, 100);
        Check.due("23: free in land 2", x.about(0, 1), 1);
        x.gone(0, 100);
        Check.due("23: its leave is gone", x.about(0, 1), 0);
        x.book(4, 100);
        Check.due("23: free in all", x.about(0, 1), 1);
        Check.edition(x, 0, "a;b;c");
        Check.due("23: no pages", x.about(0, 1), 0);
        Check.due("23: no pages", x.about(0, 2), 1);
        Check.due("23: no pages", x.about(0, 3), -1);
        Check.due("23: not as known later", x.about(0, 4), 0);
        PoetsBook y = new PoetsBook();
        poem(y, 0, 0, 0, 1, null);
        Check.due("23: without leave", y.about(0, 1), 0);
        Check.due("23: without leave", y.about(0, 2), 0);
        Check.due("23: without leave", y.about(0, 3), 1);
    }

    private static void printedEditions() {
        PoetsBook x = new PoetsBook();
        Check.rules(x, "free 0 0;");
        poem(x, 0, 0, 0, 1, "lands 0 1;edition 1;fee 7 line;");
        Check.due("23: it hasn't that edition", x.about(0, 1), 0);
        Check.due("23: it hasn't that edition", x.about(0, 3), -1);
        Check.edition(x, 0, "a;b");
        Check.edition(x, 0, "a;b;c");
        Check.due("23: the edition told", x.about(0, 2), 1);
        Check.due("23: its fee", x.about(0, 4), 14);
        x.dead(0, 0);
        Check.due("23: free: the latest", x.about(0, 2), 2);
        Check.due("23: free: no fee", x.about(0, 4), 0);
        x.book(3, 0);
        Check.due("23: not free in all", x.about(0, 2), 1);
        Check.due("23: not free in all", x.about(0, 4), 14);
        Check.leave(x, 0, "lands 0 1;");
        Check.due("23: none told: the latest", x.about(0, 2), 2);
    }

    private static void fees() {
        PoetsBook x = new PoetsBook();
        Check.rules(x, "page 6;");
        poem(x, 0, 0, 0, 8, "lands 0;fee 3 line;");
        poem(x, 0, 0, 0, 8, "lands 0;fee 3 page;");
        poem(x, 0, 0, 0, 8, "lands 0;fee 3 all;");
        poem(x, 0, 0, 0, 8, "lands 0;");
        poem(x, 0, 0, 0, 8, "lands 1;fee 3 all;");
        int[] dues = {24, 6, 3, 0, 0};
        for (int c = 0; c < dues.length; c++) {
            Check.due("23: pages", x.about(c, 3), 2);
            Check.due("23: fee", x.about(c, 4), dues[c]);
        }
    }

    private static void choices() {
        PoetsBook x = new PoetsBook();
        Check.rules(x, "sheet 2;sheets 2;front 1;sum 9;most 2;");
        poem(x, 0, 0, 5, 1, "lands 0;fee 4 all;");
        poem(x, 0, 0, 6, 1, "lands 0;fee 4 all;");
        poem(x, 0, 0, 7, 1, "lands 0;fee 2 all;");
        poem(x, 1, 0, 8, 1, "lands 0;fee 3 all;");
        poem(x, 2, 0, 9, 1, "lands 0;");
        poem(x, 3, 0, 9, 1, "lands 1;");
        Check.due("26: none taken", x.worth(0), 0);
        Check.due("26: two of one poet", x.worth(3), 11);
        Check.due("26: three of one poet", x.worth(7), -1);
        Check.due("26: the sum is met", x.worth(1 | 4 | 8), 20);
        Check.due("26: the sum is passed", x.worth(1 | 2 | 8), -1);
        Check.due("26: the pages are met", x.worth(4 | 8 | 16), 24);
        Check.due("26: the pages are passed", x.worth(2 | 4 | 8 | 16), -1);
        Check.due("26: not allowed", x.worth(32), -1);
        Check.due("26: no such", x.worth(64), PoetsBook.RANGE);
        Check.due("26: no such", x.worth(-1), PoetsBook.RANGE);
        Check.due("24: the best", x.choose(), 24);
        Check.due("25: its set", x.chosen(), 4 | 8 | 16);
        Check.rules(x, "sheet 2;sheets 1;front 3;");
        Check.due("24: front alone is too much", x.choose(), -1);
        Check.due("26: front alone is too much", x.worth(0), -1);
        Check.due("25: the latest that told worth", x.chosen(), 4 | 8 | 16);
        Check.rules(x, "sheet 2;sheets 1;front 2;");
        Check.due("24: front just fits", x.choose(), 0);
        Check.due("25: none", x.chosen(), 0);
    }

    private static void bestChoices() {
        PoetsBook x = new PoetsBook();
        Check.rules(x, "page 6;title 0;sheet 2;sheets 1;front 0;");
        poem(x, 0, 0, 5, 1, "lands 0;fee 4 all;");
        poem(x, 1, 0, 5, 8, "lands 0;fee 3 all;");
        poem(x, 2, 0, 10, 8, "lands 0;fee 7 all;");
        Check.due("24: one of two pages", x.choose(), 10);
        Check.due("25: ", x.chosen(), 4);
        poem(x, 3, 0, 5, 1, "lands 0;fee 2 all;");
        Check.due("25: a candidate came", x.chosen(), 0);
        Check.due("24: the least fees", x.choose(), 10);
        Check.due("25: the least fees", x.chosen(), 9);
        poem(x, 4, 0, 10, 1, "lands 0;fee 6 all;");
        x.choose();
        Check.due("24: more worth", x.chosen(), 16 | 8);
        poem(x, 5, 0, 15, 1, "lands 0;fee 8 all;");
        x.choose();
        Check.due("24: more worth", x.chosen(), 32 | 16);
        PoetsBook y = new PoetsBook();
        Check.rules(y, "page 6;title 0;sum 5;");
        poem(y, 0, 0, 5, 8, "lands 0;fee 5 all;");
        poem(y, 1, 0, 5, 1, "lands 0;fee 5 all;");
        poem(y, 2, 0, 5, 1, "lands 0;fee 5 all;");
        Check.due("24: ", y.choose(), 5);
        Check.due("24: the fewest pages, then the least set", y.chosen(), 2);
        poem(y, 3, 0, 0, 1, "lands 0;");
        y.choose();
        Check.due("24: nothing that has no worth", y.chosen(), 2);
    }

    private static void chosenSets() {
        PoetsBook x = new PoetsBook();
        Check.due("25: ahead of any", x.chosen(), 0);
        poem(x, 0, 0, 1, 1, "lands 0;");
        x.choose();
        Check.due("25: ", x.chosen(), 1);
        Check.due("22: no such", x.candidate(5), PoetsBook.RANGE);
        Check.due("25: none came", x.chosen(), 1);
        x.book(2, 0);
        Check.due("25: it stays", x.chosen(), 1);
    }

    private static void orders() {
        PoetsBook x = new PoetsBook();
        for (int c = 0; c < 12; c++) {
            poem(x, c, 1900 - c, 0, 1, "lands 0;");
        }
        Check.due("27: none", x.order(0), PoetsBook.RANGE);
        Check.due("27: eleven", x.order(2047), PoetsBook.RANGE);
        Check.due("27: no such", x.order(4096), PoetsBook.RANGE);
        Check.due("27: no such", x.order(Integer.MIN_VALUE), PoetsBook.RANGE);
        Check.due("27: ten", x.order(1023), 0);
        row(x, 9, 8, 7, 6, 5, 4, 3, 2, 1, 0);
        Check.due("27: one", x.order(2048), 0);
        row(x, 11);
        PoetsBook y = new PoetsBook();
        for (int c = 0; c < 4; c++) {
            poem(y, c / 2, 1900, 0, 1, "lands 0;");
        }
        Check.due("27: the least row", y.order(15), 0);
        row(y, 0, 2, 1, 3);
        Check.due("27: two of one poet", y.order(3), PoetsBook.NONE);
        row(y, 0, 2, 1, 3);
        poem(y, 5, 1900, 0, 1, "lands 1;");
        Check.due("27: not allowed", y.order(16), PoetsBook.STATE);
        Check.due("27: not allowed", y.order(19), PoetsBook.STATE);
        row(y, 0, 2, 1, 3);
        PoetsBook z = new PoetsBook();
        poem(z, 0, 1950, 0, 1, "lands 0;");
        poem(z, 0, 1900, 0, 1, "lands 0;");
        poem(z, 1, 2000, 0, 1, "lands 0;");
        Check.due("27: the fewest steps", z.order(7), 50);
        row(z, 1, 2, 0);
    }

    private static void apart() {
        PoetsBook x = new PoetsBook();
        Check.rules(x, "free 0 0;");
        poem(x, 0, 0, 0, 1, "lands 0 1;apart 1;");
        poem(x, 1, 0, 0, 1, "lands 0 1;");
        poem(x, 2, 0, 0, 1, "lands 0 1;");
        Check.due("27: apart", x.order(3), PoetsBook.NONE);
        Check.due("27: one between", x.order(7), 0);
        row(x, 0, 2, 1);
        Check.due("28: apart behind", Check.lay(x, "CBA"), PoetsBook.NONE);
        Check.due("28: apart ahead", Check.lay(x, "CAB"), PoetsBook.NONE);
        x.dead(1, 0);
        Check.due("27: of another one who is free", x.order(3), PoetsBook.NONE);
        x.dead(0, 0);
        Check.due("27: unless it is free", x.order(3), 0);
        row(x, 0, 1);
        x.book(3, 0);
        Check.due("27: not in all lands", x.order(3), PoetsBook.NONE);
        x.translated(2, 0, 50);
        Check.due("27: a translator may stand anywhere", x.order(5), 0);
        poem(x, 3, 0, 0, 1, "lands 0 1;apart 3;");
        Check.due("27: apart from one's own", x.order(8), 0);
    }

    private static void laid() {
        PoetsBook x = new PoetsBook();
        for (int c = 0; c < 14; c++) {
            poem(x, c, 2000 - 10 * (c % 3), 0, 1, c == 13 ? "lands 1;" : "lands 0;");
        }
        Check.due("28: nothing", Check.lay(x, ""), PoetsBook.NONE);
        Check.due("28: ", Check.lay(x, "CBA"), 0);
        row(x, 2, 1, 0);
        Check.due("28: thirteen", Check.lay(x, "MLKJIHGFEDCBA"), 80);
        row(x, 12, 11, 10, 9, 8, 7, 6, 5, 4, 3, 2, 1, 0);
        Check.due("28: twice", Check.lay(x, "ABA"), PoetsBook.NONE);
        Check.due("28: a blank", Check.lay(x, "A B"), PoetsBook.NONE);
        Check.due("28: @", Check.lay(x, "@"), PoetsBook.NONE);
        Check.due("28: O", Check.lay(x, "O"), PoetsBook.NONE);
        Check.due("28: small", Check.lay(x, "a"), PoetsBook.NONE);
        Check.due("28: a high byte", Check.lay(x, "\u00c1"), PoetsBook.NONE);
        Check.due("28: fifteen", Check.lay(x, "ABCDEFGHIJKLMNO"), PoetsBook.NONE);
        Check.due("28: not allowed", Check.lay(x, "AN"), PoetsBook.STATE);
        Check.due("28: none, ahead of not allowed", Check.lay(x, "NN"), PoetsBook.NONE);
        row(x, 12, 11, 10, 9, 8, 7, 6, 5, 4, 3, 2, 1, 0);
        Check.leave(x, 13, "lands 0;");
        Check.due("28: fourteen", Check.lay(x, "ABCDEFGHIJKLMN"), 90);
        row(x, 0, 1, 2, 3, 4, 5, 6, 7, 8, 9, 10, 11, 12, 13);
        PoetsBook y = new PoetsBook();
        poem(y, 0, 0, 0, 1, "lands 0;");
        poem(y, 0, 0, 0, 1, "lands 0;");
        poem(y, 1, 0, 0, 1, "lands 1;");
        Check.due("28: two of one poet", Check.lay(y, "AB"), PoetsBook.NONE);
        Check.due("28: not allowed, ahead of that", Check.lay(y, "ABC"), PoetsBook.STATE);
    }

    private static void pagesOfTheRow() {
        PoetsBook x = new PoetsBook();
        Check.rules(x, "page 6;title 0;front 3;sheet 4;");
        poem(x, 0, 0, 0, 8, "lands 0;");
        poem(x, 1, 0, 0, 1, "lands 0;until 9;");
        poem(x, 2, 0, 0, 13, "lands 0;");
        Check.lay(x, "CBA");
        int[] pages = {3, 1, 2};
        int[] begins = {4, 7, 8};
        for (int i = 0; i < 3; i++) {
            Check.due("29: begins", x.place(i, 1), begins[i]);
            Check.due("29: pages", x.place(i, 2), pages[i]);
            Check.due("29: edition", x.place(i, 3), 0);
        }
        Check.due("29: what 4", x.place(0, 4), -1);
        Check.due("29: what -1", x.place(0, -1), -1);
        Check.due("29: i 3", x.place(3, 0), -1);
        Check.due("29: i -1", x.place(-1, 0), -1);
        int[] printed = {3, 9, 3, 3};
        for (int what = 0; what < 4; what++) {
            Check.due("30: " + what, x.printed(what), printed[what]);
        }
        Check.due("30: 4", x.printed(4), -1);
        Check.due("30: -1", x.printed(-1), -1);
        Check.edition(x, 2, "a");
        Check.due("29: as they are today", x.place(1, 1), 5);
        Check.due("29: as they are today", x.place(0, 3), 1);
        Check.due("30: as they are today", x.printed(1), 7);
        x.book(1, 10);
        for (int what = 1; what < 4; what++) {
            Check.due("29: one isn't allowed", x.place(0, what), -1);
            Check.due("30: one isn't allowed", x.printed(what), -1);
        }
        Check.due("29: the candidate", x.place(0, 0), 2);
        Check.due("30: how many", x.printed(0), 3);
        PoetsBook y = new PoetsBook();
        Check.rules(y, "front 0;");
        for (int what = 0; what < 4; what++) {
            Check.due("30: nothing at all", y.printed(what), 0);
        }
        Check.rules(y, "front 8;");
        Check.due("30: a whole sheet", y.printed(2), 1);
        Check.due("30: a whole sheet", y.printed(3), 0);
    }

    private static void indexes() {
        PoetsBook x = new PoetsBook();
        String[] texts = {"ab c", "a;z", "ab", "a a", "b", "aa z z", "ab", "z;a"};
        for (int p = 0; p < texts.length; p++) {
            x.poem(p, 0, 0, 0);
            Check.edition(x, p, texts[p]);
            Check.leave(x, p, "lands 0;until 9;");
            x.candidate(p);
        }
        Check.due("31: no row", x.index(0), -1);
        Check.lay(x, "HGFEDCBA");
        int[] dues = {6, 4, 2, 1, 5, 7, 3, 0};
        for (int i = 0; i < dues.length; i++) {
            Check.due("31: index(" + i + ")", x.index(i), dues[i]);
        }
        Check.due("31: 8", x.index(8), -1);
        Check.due("31: -1", x.index(-1), -1);
        x.book(1, 10);
        Check.due("31: not allowed", x.index(0), -1);
        PoetsBook y = new PoetsBook();
        String[] longs = {"zzzzzzzzzzzz", "zzzzzzzzzzzy", "zzzzzzzzzzz", "zzzzzzzzzzz a", "b", "az", "azzzzzzzzzzz"};
        for (int p = 0; p < longs.length; p++) {
            y.poem(p, 0, 0, 0);
            Check.edition(y, p, longs[p]);
            Check.leave(y, p, "lands 0;");
            y.candidate(p);
        }
        Check.lay(y, "ABCDEFG");
        int[] longDues = {5, 6, 4, 2, 3, 1, 0};
        for (int i = 0; i < longDues.length; i++) {
            Check.due("31: long words", y.index(i), longDues[i]);
        }
    }

    private static void comes(PoetsBook x, int i, int moved, int... dues) {
        Check.due("32: withdraw(" + i + ")", x.withdraw(i), moved);
        for (int what = 0; what < dues.length; what++) {
            Check.due("33: withdraw(" + i + "), comes(" + what + ")", x.comes(what), dues[what]);
        }
    }

    private static void withdrawals() {
        PoetsBook x = new PoetsBook();
        Check.rules(x, "page 6;title 0;");
        poem(x, 0, 0, 0, 20, "lands 0;");
        poem(x, 1, 0, 0, 1, "lands 0;");
        poem(x, 2, 0, 0, 7, "lands 0;");
        Check.due("33: ahead of any", x.comes(0), -1);
        Check.due("32: no row", x.withdraw(0), PoetsBook.RANGE);
        Check.lay(x, "ABC");
        // Four pages go, and three empty ones can't stand for them.
        comes(x, 0, 2, 0, -1, -1, 0);
        comes(x, 1, 0, 0, -1, -1, 1);
        comes(x, 2, 0, 0, -1, -1, 0);
        Check.due("33: what 4", x.comes(4), -1);
        Check.due("33: what -1", x.comes(-1), -1);
        Check.due("32: -1", x.withdraw(-1), PoetsBook.RANGE);
        Check.due("32: 3", x.withdraw(3), PoetsBook.RANGE);
        Check.due("33: the latest that told a number", x.comes(0), 0);
        poem(x, 3, 0, 5, 1, "lands 0;");
        Check.due("33: a candidate came", x.comes(0), -1);
        comes(x, 0, 0, 1, 3, -1, 3);
        comes(x, 1, 0, 1, 3, -1, 0);
        comes(x, 2, 0, 1, 3, -1, 0);
        poem(x, 4, 0, 4, 13, "lands 0;");
        // The fewest empty pages, then the most worth, then the least row.
        comes(x, 0, 0, 2, 3, 4, 0);
        comes(x, 1, 0, 1, 3, -1, 0);
        comes(x, 2, 0, 2, 3, 4, 0);
        poem(x, 2, 0, 99, 1, "lands 0;apart 1;");
        comes(x, 1, 0, 1, 3, -1, 0);
        comes(x, 2, 0, 2, 3, 5, 0);
        x.gone(3, 0);
        comes(x, 1, 0, 0, -1, -1, 1);
        Check.due("27: ", x.order(1), 0);
        Check.due("33: the row is another one", x.comes(0), -1);
        x.withdraw(0);
        Check.lay(x, "AA");
        Check.due("33: the row stays", x.comes(0) < 0 ? 1 : 0, 0);
        Check.lay(x, "A");
        Check.due("33: the row is laid anew", x.comes(0), -1);
    }

    private static void withdrawalStates() {
        PoetsBook x = new PoetsBook();
        poem(x, 0, 0, 0, 1, "lands 0;");
        poem(x, 1, 0, 0, 1, "lands 0;apart 0;");
        poem(x, 2, 0, 0, 1, "lands 0;");
        Check.lay(x, "ACB");
        Check.due("32: its neighbours can't meet", x.withdraw(1), PoetsBook.NONE);
        Check.due("33: that told no number", x.comes(0), -1);
        x.gone(2, 0);
        Check.due("32: it isn't allowed itself", x.withdraw(1), PoetsBook.NONE);
        Check.due("32: another one isn't allowed", x.withdraw(0), PoetsBook.STATE);
        poem(x, 3, 0, 0, 1, "lands 0;");
        comes(x, 1, 0, 1, 3, -1, 0);
        Check.rules(x, "page 6;title 4;");
        Check.edition(x, 2, "a;b;c");
        Check.due("32: it has no pages", x.withdraw(1), PoetsBook.STATE);
        Check.due("33: the latest that told a number", x.comes(1), 3);
        poem(x, 1, 0, 50, 1, "lands 0;");
        Check.rules(x, "");
        comes(x, 1, 0, 1, 3, -1, 0);
        Check.due("32: another one isn't allowed", x.withdraw(2), PoetsBook.STATE);
        poem(x, 2, 0, 60, 1, "lands 0;");
        Check.rules(x, "page 6;title 0;");
        Check.edition(x, 2, "a;a;a;a;a;a;a;a");
        Check.due("29: not allowed", x.place(1, 2), -1);
        comes(x, 1, 0, 2, 4, 5, 0);
    }

    private static void royalties() {
        PoetsBook x = new PoetsBook();
        Check.due("34: no row", x.royalty(1), PoetsBook.STATE);
        Check.due("34: RANGE ahead of STATE", x.royalty(-1), PoetsBook.RANGE);
        poem(x, 0, 0, 0, 1, "lands 0;until 9;");
        poem(x, 1, 0, 0, 1, "lands 0;");
        poem(x, 2, 0, 0, 2, "lands 0;");
        poem(x, 0, 0, 0, 3, "lands 0;");
        Check.lay(x, "CABD");
        Check.due("34: too much", x.royalty(10000000), PoetsBook.RANGE);
        Check.due("34: nothing", x.royalty(0), 1);
        shares(x, 0, 0, 0);
        // 10 by 2, 1, 1, 3 of 7: 2 6/7, 1 3/7, 1 3/7, 4 2/7.
        Check.due("34: 10", x.royalty(10), 1);
        shares(x, 2 + 4, 1, 3);
        // Of the alike rests 3/7 the earlier in the row: 24: 6 6/7, 3 3/7, 3 3/7, 10 2/7.
        Check.due("34: 24", x.royalty(24), 1);
        shares(x, 4 + 10, 3, 7);
        Check.due("34: the most", x.royalty(9999999), 1);
        shares(x, 1428571 + 4285714, 1428571, 2857143);
        x.translated(2, 1, 33);
        Check.due("35: as it was", x.share(1), 1428571);
        x.royalty(24);
        // 33 hundredths of 7: 2 31/100, cut.
        shares(x, 4 + 10, 3 + 2, 5);
        x.royalty(9999999);
        shares(x, 1428571 + 4285714, 1428571 + 942857, 2857143 - 942857);
        x.book(1, 10);
        Check.due("34: one isn't allowed", x.royalty(5), PoetsBook.STATE);
        Check.due("34: RANGE", x.royalty(-1), PoetsBook.RANGE);
        shares(x, 1428571 + 4285714, 1428571 + 942857, 2857143 - 942857);
        Check.due("35: 19", x.share(19), 0);
        Check.due("35: 20", x.share(20), PoetsBook.RANGE);
        Check.due("35: -1", x.share(-1), PoetsBook.RANGE);
    }

    private static void shares(PoetsBook x, int... dues) {
        for (int poet = 0; poet < dues.length; poet++) {
            Check.due("35: share(" + poet + ")", x.share(poet), dues[poet]);
        }
    }

    private static void again() {
        PoetsBook x = new PoetsBook();
        Check.due("37: ahead of any", x.lacking(0), -1);
        Check.due("38: ahead of any", x.ask(), 0);
        Check.due("36: no row", x.again(63, 0), 0);
        Check.due("37: no row", x.lacking(0), -1);
        Check.rules(x, "free 3 0;");
        poem(x, 4, 0, 0, 1, "lands 0 1;until 100;");
        poem(x, 19, 0, 0, 1, "lands 0 2;until 50;");
        poem(x, 7, 0, 0, 1, "lands 0;");
        Check.lay(x, "CBA");
        Check.due("37: ahead of any in this row", x.lacking(0), -1);
        Check.due("36: lands 0", x.again(0, 0), PoetsBook.RANGE);
        Check.due("36: lands 64", x.again(64, 0), PoetsBook.RANGE);
        Check.due("36: day -1", x.again(1, -1), PoetsBook.RANGE);
        Check.due("36: day 30000", x.again(1, 30000), PoetsBook.RANGE);
        Check.due("36: all may", x.again(1, 50), 0);
        Check.due("37: all may", x.lacking(1), 0);
        Check.due("36: one is too late", x.again(1, 51), 1);
        Check.due("37: it", x.lacking(1), 1);
        Check.due("37: not the others", x.lacking(0), 0);
        Check.due("38: its holder", x.ask(), 1 << 19);
        x.dead(4, 0);
        Check.due("36: in more lands", x.again(14, 50), 3);
        Check.due("37: 0", x.lacking(0), 14);
        Check.due("37: 1", x.lacking(1), 10);
        Check.due("37: 2", x.lacking(2), 4);
        Check.due("37: 3", x.lacking(3), -1);
        Check.due("37: -1", x.lacking(-1), -1);
        Check.due("38: their holders", x.ask(), 1 << 19 | 1 << 7 | 1 << 4);
        Check.due("36: RANGE", x.again(64, 0), PoetsBook.RANGE);
        Check.due("37: the latest that was not RANGE", x.lacking(1), 10);
        x.gone(0, 0);
        Check.due("37: as it was told", x.lacking(2), 4);
        x.book(8, 0);
        Check.due("27: the row stays", x.order(1), 0);
        Check.due("37: the row was made anew", x.lacking(0), -1);
        Check.due("38: the row was made anew", x.ask(), 0);
        Check.due("36: ", x.again(1, 0), 1);
        Check.due("27: ", x.order(2), PoetsBook.STATE);
        Check.due("37: the row stays", x.lacking(0), 1);
        Check.due("28: ", Check.lay(x, "A"), 0);
        Check.due("37: the row was laid anew", x.lacking(0), -1);
    }

    private static void counts() {
        PoetsBook x = new PoetsBook();
        x.pass(3);
        x.poem(0, 0, 0, 0);
        x.poem(0, 0, 0, 0);
        x.leave(0);
        x.leave(0);
        x.leave(1);
        x.candidate(1);
        x.book(5, 6);
        x.feed(0, 0, 0, 0, 0);
        int[] dues = {3, 2, 3, 1, 20, 5, 6, -1};
        for (int what = 0; what < dues.length; what++) {
            Check.due("39: count(" + what + ")", x.count(what), dues[what]);
        }
        Check.due("39: count(-1)", x.count(-1), -1);
    }
}
