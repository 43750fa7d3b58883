/** Promises 1 to 14: the tape, the rules, poems and their editions. */
public final class TextsTest {
    private TextsTest() {
    }

    public static void main(String[] args) {
        newObject();
        tape();
        clock();
        rules();
        faultsOfRules();
        faultIsOfTheLatestReading();
        poems();
        translators();
        editions();
        faultsOfEditions();
        pages();
        besides();
        tree();
        Check.finish();
    }

    private static void newObject() {
        PoetsBook x = new PoetsBook();
        int[] counts = {0, 0, 0, 0, 0, 1, 0};
        for (int what = 0; what < counts.length; what++) {
            Check.due("1: count(" + what + ")", x.count(what), counts[what]);
        }
        Check.due("1: printed(0)", x.printed(0), 0);
        Check.due("1: fault(0)", x.fault(0), 0);
        Check.due("1: fault(1)", x.fault(1), -1);
        Check.due("1: two objects don't share", new PoetsBook().poem(0, 0, 0, 0), 0);
        Check.due("1: count(1)", x.count(1), 0);
    }

    private static void tape() {
        PoetsBook x = new PoetsBook();
        for (int i = 1; i <= 80; i++) {
            Check.due("2: feed", x.feed(-1, 0, 1, 2, 3), 20 * i);
        }
        Check.due("2: feed beyond 1600", x.feed(0, 0, 0, 0, 0), PoetsBook.FULL);
        Check.due("2: it has as many as ahead", x.count(4), 1600);
        Check.due("3: end(1600)", x.end(1600), 1600);
        Check.due("3: end(1581)", x.end(1581), 1581);
        Check.due("2: feed at 1581", x.feed(0, 0, 0, 0, 0), PoetsBook.FULL);
        Check.due("3: end(1580)", x.end(1580), 1580);
        Check.due("2: feed at 1580", x.feed(0, 0, 0, 0, 0), 1600);
        Check.due("3: end(1601)", x.end(1601), PoetsBook.NONE);
        Check.due("3: end(-1)", x.end(-1), PoetsBook.NONE);
        Check.due("3: count(4)", x.count(4), 1600);
        Check.due("3: end(0)", x.end(0), 0);
        Check.due("3: end(1) of none", x.end(1), PoetsBook.NONE);
        // "page" " 7 ;" and the rest cut: the highest byte of each int comes first.
        x.feed(0x70616765, 0x2037203B, 0x7A7A7A7A, 0, 0);
        x.end(8);
        Check.due("2: bytes in their order", x.rules(), 1);
        Check.due("2: rule(0)", x.rule(0), 7);
        Check.due("5: it is emptied", x.count(4), 0);
        emptied(x);
    }

    private static void emptied(PoetsBook x) {
        Check.put(x, "zzz");
        x.rules();
        Check.due("a fault empties it", x.count(4), 0);
        Check.put(x, "zzz");
        x.edition(0);
        Check.due("edition() with RANGE empties it", x.count(4), 0);
        Check.put(x, "zzz");
        x.leave(-1);
        Check.due("leave() with RANGE empties it", x.count(4), 0);
        Check.put(x, "zzz");
        x.lay();
        Check.due("lay() empties it", x.count(4), 0);
        x.poem(0, 0, 0, 0);
        for (int e = 0; e < 4; e++) {
            Check.put(x, "zzz");
            x.edition(0);
        }
        Check.due("edition() with FULL empties it", x.count(4), 0);
    }

    private static void clock() {
        PoetsBook x = new PoetsBook();
        Check.due("4: pass(0)", x.pass(0), PoetsBook.RANGE);
        Check.due("4: pass(-1)", x.pass(-1), PoetsBook.RANGE);
        Check.due("4: pass(10000)", x.pass(10000), PoetsBook.RANGE);
        Check.due("4: pass(9999)", x.pass(9999), 9999);
        Check.due("4: pass(9999)", x.pass(9999), 19998);
        Check.due("4: pass(9999)", x.pass(9999), 29997);
        Check.due("4: pass(3)", x.pass(3), PoetsBook.RANGE);
        Check.due("4: pass(max)", x.pass(Integer.MAX_VALUE), PoetsBook.RANGE);
        Check.due("4: pass(2)", x.pass(2), 29999);
        Check.due("4: pass(1)", x.pass(1), PoetsBook.RANGE);
        Check.due("4: count(0)", x.count(0), 29999);
    }

    private static void rules() {
        PoetsBook x = new PoetsBook();
        int[] first = {20, 8, 2, 4, 4, 99999, 9, -1, -1, -1, 70, 70, 70, 70, 70, 70, -1};
        for (int what = 0; what < first.length; what++) {
            Check.due("7: rule(" + what + ")", x.rule(what), first[what]);
        }
        Check.due("7: rule(-1)", x.rule(-1), -1);
        Check.due("5: no clause", Check.rules(x, " \n "), 0);
        Check.due("5: all clauses", Check.rules(x, "free 0 0;free 5 99;free 1 1;free 2 2;free 3 3;free 4 4;"
                + "most 1;sum 0;sheets 40;front 30;title 4;sheet 32;page 60;"), 13);
        int[] greatest = {60, 32, 4, 30, 40, 0, 1, -1, -1, -1, 0, 1, 2, 3, 4, 99};
        for (int what = 0; what < greatest.length; what++) {
            Check.due("5: rule(" + what + ")", x.rule(what), greatest[what]);
        }
        Check.due("5: the least", Check.rules(x, "page6;sheet2;title0;front0;sheets1;most9;sum99999;"), 7);
        int[] least = {6, 2, 0, 0, 1, 99999, 9, -1, -1, -1, 70, 70, 70, 70, 70, 70};
        for (int what = 0; what < least.length; what++) {
            Check.due("5: rule(" + what + ")", x.rule(what), least[what]);
        }
        Check.due("5: five digits", Check.rules(x, "page 00007\n;"), 1);
        Check.due("5: rule(0)", x.rule(0), 7);
        Check.due("5: what isn't told is as at first", x.rule(1), 8);
        Check.due("5: a fault", Check.rules(x, "page 9;sheet 9;zzz"), PoetsBook.NONE);
        Check.due("5: they stay", x.rule(0), 7);
    }

    private static void faultOfRules(String text, int kind, int place) {
        PoetsBook x = new PoetsBook();
        Check.due("5: rules of " + text, Check.rules(x, text), kind == 0 ? 1 : -1);
        Check.due("6: kind of " + text, x.fault(0), kind);
        Check.due("6: place of " + text, x.fault(1), place);
    }

    private static void faultsOfRules() {
        faultOfRules("pages 7;", 1, 0);
        faultOfRules("pag 7;", 1, 0);
        faultOfRules("zage 7;", 1, 0);
        faultOfRules("pagz 7;", 1, 0);
        faultOfRules("7 page;", 1, 0);
        faultOfRules(";", 1, 0);
        faultOfRules("page 7;;", 1, 7);
        faultOfRules("page", 1, 4);
        faultOfRules("page 7 ", 1, 7);
        faultOfRules("page ;", 1, 5);
        faultOfRules("page page;", 1, 5);
        faultOfRules("page 7 7;", 1, 7);
        faultOfRules("page 000007;", 1, 5);
        faultOfRules("page 7/", 1, 6);
        faultOfRules("page 7+", 1, 6);
        faultOfRules("page 7;\tsum 1;", 1, 7);
        faultOfRules("page 7;Sum 1;", 1, 7);
        faultOfRules("\u00e9", 1, 0);
        faultOfRules("pagepagepagep 7;", 1, 0);
        faultOfRules("page 5;", 2, 5);
        faultOfRules("page 61;", 2, 5);
        faultOfRules("sheet 1;", 2, 6);
        faultOfRules("sheet 33;", 2, 6);
        faultOfRules("title 5;", 2, 6);
        faultOfRules("front 31;", 2, 6);
        faultOfRules("sheets 0;", 2, 7);
        faultOfRules("sheets 41;", 2, 7);
        faultOfRules("most 0;", 2, 5);
        faultOfRules("most 10;", 2, 5);
        faultOfRules("sum 100000;", 1, 4);
        faultOfRules("free 6 1;", 2, 5);
        faultOfRules("free 1 100;", 2, 7);
        faultOfRules("free 1;", 1, 6);
        faultOfRules("page 7;page 5;", 3, 7);
        faultOfRules("page 7; sum 1; page", 3, 15);
        faultOfRules("free 1 1;free 1 200;", 3, 14);
        faultOfRules("free 1 1;free 6 1;", 2, 14);
        faultOfRules("free 2 2;", 0, -1);
        // The first one counts, whatever comes behind it.
        faultOfRules("page 5;zzz", 2, 5);
    }

    private static void faultIsOfTheLatestReading() {
        PoetsBook x = new PoetsBook();
        x.poem(0, 0, 0, 0);
        Check.rules(x, "page 5;");
        Check.edition(x, 1, "a");
        Check.due("6: RANGE doesn't count", x.fault(0), 2);
        Check.leave(x, 1, "");
        Check.due("6: RANGE doesn't count", x.fault(1), 5);
        Check.lay(x, "A");
        Check.due("6: lay() doesn't count", x.fault(1), 5);
        Check.edition(x, 0, "a");
        Check.due("6: none since", x.fault(0), 0);
        Check.due("6: none since", x.fault(1), -1);
        Check.leave(x, 0, "fee 1 word;");
        Check.due("6: of a leave", x.fault(0), 1);
        Check.due("6: of a leave", x.fault(1), 6);
        Check.edition(x, 0, "a");
        Check.edition(x, 0, "a b c +;;");
        Check.due("6: of an edition", x.fault(1), 8);
        Check.edition(x, 0, "a");
        Check.rules(x, ";");
        Check.due("10: the fourth", Check.edition(x, 0, "a"), PoetsBook.FULL);
        Check.due("6: FULL doesn't count", x.fault(0), 1);
        Check.due("6: fault(2)", x.fault(2), -1);
        Check.due("6: fault(-1)", x.fault(-1), -1);
    }

    private static void poems() {
        PoetsBook x = new PoetsBook();
        Check.due("8: poet 20", x.poem(20, 0, 0, 0), PoetsBook.RANGE);
        Check.due("8: poet -1", x.poem(-1, 0, 0, 0), PoetsBook.RANGE);
        Check.due("8: year 2101", x.poem(0, 2101, 0, 0), PoetsBook.RANGE);
        Check.due("8: year -1", x.poem(0, -1, 0, 0), PoetsBook.RANGE);
        Check.due("8: holder 20", x.poem(0, 0, 20, 0), PoetsBook.RANGE);
        Check.due("8: holder -1", x.poem(0, 0, -1, 0), PoetsBook.RANGE);
        Check.due("8: worth 100", x.poem(0, 0, 0, 100), PoetsBook.RANGE);
        Check.due("8: worth -1", x.poem(0, 0, 0, -1), PoetsBook.RANGE);
        for (int p = 0; p < 40; p++) {
            Check.due("8: poem", x.poem(19, 2100, 19, 99), p);
        }
        Check.due("8: the 41st", x.poem(0, 0, 0, 0), PoetsBook.FULL);
        Check.due("8: RANGE ahead of FULL", x.poem(20, 0, 0, 0), PoetsBook.RANGE);
        Check.due("8: count(1)", x.count(1), 40);
    }

    private static void translators() {
        PoetsBook x = new PoetsBook();
        Check.due("9: no poem", x.translated(0, 1, 1), PoetsBook.RANGE);
        x.poem(3, 0, 0, 0);
        Check.due("9: poem 1", x.translated(1, 1, 1), PoetsBook.RANGE);
        Check.due("9: poem -1", x.translated(-1, 1, 1), PoetsBook.RANGE);
        Check.due("9: poet 20", x.translated(0, 20, 1), PoetsBook.RANGE);
        Check.due("9: poet -1", x.translated(0, -1, 1), PoetsBook.RANGE);
        Check.due("9: its own", x.translated(0, 3, 1), PoetsBook.RANGE);
        Check.due("9: 0", x.translated(0, 1, 0), PoetsBook.RANGE);
        Check.due("9: 100", x.translated(0, 1, 100), PoetsBook.RANGE);
        Check.due("9: 99", x.translated(0, 1, 99), 1);
        Check.due("9: again", x.translated(0, 1, 1), PoetsBook.STATE);
        Check.due("9: RANGE ahead of STATE", x.translated(0, 3, 1), PoetsBook.RANGE);
    }

    private static void editions() {
        PoetsBook x = new PoetsBook();
        x.poem(0, 0, 0, 0);
        Check.due("10: -1", Check.edition(x, -1, "a"), PoetsBook.RANGE);
        Check.due("10: 1", Check.edition(x, 1, "a"), PoetsBook.RANGE);
        Check.due("10: first", Check.edition(x, 0, "a b;c+/d e f\n;g"), 0);
        Check.due("11: lines", x.text(0, 0, 0), 4);
        Check.due("11: stanzas", x.text(0, 0, 1), 2);
        Check.due("11: words", x.text(0, 0, 2), 7);
        Check.due("11: pages", x.text(0, 0, 3), 1);
        Check.due("11: squares of one page", x.text(0, 0, 4), 0);
        Check.due("11: what 5", x.text(0, 0, 5), -9);
        Check.due("11: what -1", x.text(0, 0, -1), -9);
        Check.due("11: edition 1", x.text(0, 1, 0), -9);
        Check.due("11: edition -1", x.text(0, -1, 0), -9);
        Check.due("11: poem 1", x.text(1, 0, 0), -9);
        Check.due("11: poem -1", x.text(-1, 0, 0), -9);
        Check.due("10: second", Check.edition(x, 0, "a/b/c"), 1);
        Check.due("11: stanzas", x.text(0, 1, 1), 3);
        Check.due("10: third", Check.edition(x, 0, lines(29, "aaaaaaaaaaaa b c d e f g h", ";")
                + ";z"), 2);
        Check.due("11: thirty lines", x.text(0, 2, 0), 30);
        Check.due("11: words", x.text(0, 2, 2), 29 * 8 + 1);
        Check.due("10: fourth", Check.edition(x, 0, "a"), PoetsBook.FULL);
        Check.due("10: FULL ahead of a fault", Check.edition(x, 0, ""), PoetsBook.FULL);
    }

    private static String lines(int n, String line, String between) {
        StringBuilder text = new StringBuilder();
        for (int i = 0; i < n; i++) {
            text.append(i == 0 ? "" : between).append(line);
        }
        return text.toString();
    }

    private static void faultOfEdition(String text, int kind, int place) {
        PoetsBook x = new PoetsBook();
        x.poem(0, 0, 0, 0);
        Check.due("10: edition of " + text, Check.edition(x, 0, text), kind == 0 ? 0 : -1);
        Check.due("6: kind of " + text, x.fault(0), kind);
        Check.due("6: place of " + text, x.fault(1), place);
        Check.due("10: whether it is there " + text, x.text(0, 0, 0) == -9 ? 1 : 0, kind == 0 ? 0 : 1);
    }

    private static void faultsOfEditions() {
        faultOfEdition("", 1, 0);
        faultOfEdition("  ", 1, 2);
        faultOfEdition("+", 1, 0);
        faultOfEdition("/a", 1, 0);
        faultOfEdition("a;", 1, 2);
        faultOfEdition("a/ ", 1, 3);
        faultOfEdition("a;/b", 1, 2);
        faultOfEdition("a++", 1, 2);
        faultOfEdition("a+b", 1, 2);
        faultOfEdition("a 1", 1, 2);
        faultOfEdition("a b;1", 1, 4);
        faultOfEdition("a abcdefghijklm", 1, 2);
        faultOfEdition("a abcdefghijkl+", 0, -1);
        faultOfEdition("a.b", 1, 1);
        faultOfEdition("a b c d e f g h", 0, -1);
        faultOfEdition("a b c d e f g h+", 0, -1);
        faultOfEdition("a b c d e f g h i", 4, 16);
        faultOfEdition("a b c d e f g h iiiiiiiiiiiii", 1, 16);
        faultOfEdition("a b c d e f g h 1", 1, 16);
        faultOfEdition(lines(30, "a", ";"), 0, -1);
        faultOfEdition(lines(31, "a", ";"), 4, 60);
        faultOfEdition(lines(30, "a", ";") + " ; b", 4, 62);
        faultOfEdition(lines(30, "a", ";") + ";", 1, 60);
        faultOfEdition(lines(30, "a", ";") + ";+", 1, 60);
        faultOfEdition(lines(31, "a", "/"), 4, 60);
    }

    private static PoetsBook bookOf(String rules, String text) {
        PoetsBook x = new PoetsBook();
        x.poem(0, 0, 0, 0);
        Check.due("rules " + rules, Check.rules(x, rules) < 0 ? 1 : 0, 0);
        Check.due("edition " + text, Check.edition(x, 0, text), 0);
        return x;
    }

    private static void pagesOf(String rules, String text, int squares, int... breaks) {
        PoetsBook x = bookOf(rules, text);
        Check.due("11: pages of " + text, x.text(0, 0, 3), breaks.length + 1);
        Check.due("11: squares of " + text, x.text(0, 0, 4), squares);
        for (int i = 0; i < breaks.length; i++) {
            Check.due("12: break " + i + " of " + text, x.breakAt(0, 0, i), breaks[i]);
        }
        Check.due("12: no more breaks of " + text, x.breakAt(0, 0, breaks.length), -1);
        Check.due("12: breakAt(-1) of " + text, x.breakAt(0, 0, -1), -1);
    }

    private static void pages() {
        pagesOf("page 6;title 0;", "a;b;c;d;e;f", 0);
        pagesOf("page 6;title 1;", "a;b;c;d;e;f", 1, 3);
        // Two lines at least stay together on both sides of a break within a stanza.
        pagesOf("page 6;title 0;", "a;b;c;d;e;f;g", 1, 4);
        pagesOf("page 6;title 4;", "a;b;c;d;e;f;g", 0, 1);
        // The empty line between two stanzas takes room on one page, none at a break.
        pagesOf("page 6;title 0;", "a;b;c/d;e;f", 9, 2);
        pagesOf("page 6;title 0;", "a;b;c/d;e", 0);
        pagesOf("page 6;title 0;", "a;b;c/d;e+;f;g", 9, 2);
        // Of breaks that leave as many squares the least row.
        pagesOf("page 6;title 0;", "a/b/c/d/e/f/g", 2, 2, 5);
        pagesOf("page 6;title 0;", "a;b;c;d;e;f;g;h;i;j;k", 0, 5);
        pagesOf("page 6;title 0;", "a;b;c;d;e;f;g;h;i;j;k;l;m", 1, 4, 10);
        // + keeps a line with the next one, at a stanza's end as well.
        pagesOf("page 6;title 0;", "a;b;c;d;e+;f;g", 4, 3);
        PoetsBook x = bookOf("page 6;title 4;", "a;b+/c;d");
        Check.due("11: no way", x.text(0, 0, 3), -1);
        Check.due("11: no way", x.text(0, 0, 4), -1);
        Check.due("12: no way", x.breakAt(0, 0, 0), -1);
        Check.rules(x, "page 9;title 4;");
        Check.due("11: by the rules of today", x.text(0, 0, 3), 1);
        Check.rules(x, "page 8;title 4;");
        Check.due("11: by the rules of today", x.text(0, 0, 3), -1);
        PoetsBook y = bookOf("page 6;title 0;", "a;b;c;d;e;f;g");
        Check.due("12: ahead of text()", y.breakAt(0, 0, 0), 4);
        Check.rules(y, "page 6;title 2;");
        Check.due("12: by the rules of today", y.breakAt(0, 0, 0), 3);
        Check.rules(y, "");
        Check.due("12: by the rules of today", y.breakAt(0, 0, 0), -1);
        Check.due("12: none such", x.breakAt(1, 0, 0), -1);
        Check.due("12: none such", x.breakAt(0, 1, 0), -1);
        Check.due("12: none such", x.breakAt(-1, 0, 0), -1);
    }

    private static void besideOf(String one, String other, int cost) {
        PoetsBook x = new PoetsBook();
        x.poem(0, 0, 0, 0);
        Check.edition(x, 0, one);
        Check.edition(x, 0, other);
        Check.due("13: " + one + " beside " + other, x.beside(0, 0, 1), cost);
        Check.due("13: " + other + " beside " + one, x.beside(0, 1, 0), cost);
        Check.due("13: with itself", x.beside(0, 1, 1), 0);
    }

    private static void besides() {
        besideOf("a", "a", 0);
        besideOf("a;b+/c", "a/b;c", 0);
        besideOf("a b", "ab", 2);
        besideOf("a b c", "a x c", 1);
        besideOf("a b c", "b c d", 2);
        besideOf("a b c;d", "d", 3);
        besideOf("a b c;d e", "d e;a b c", 4);
        // Never a line made two, whatever their words are.
        besideOf("a b c d", "a b;c d", 4);
        besideOf("a a a a", "b", 4);
        PoetsBook x = new PoetsBook();
        Check.due("13: no poem", x.beside(0, 0, 0), PoetsBook.RANGE);
        x.poem(0, 0, 0, 0);
        Check.due("13: no edition", x.beside(0, 0, 0), PoetsBook.RANGE);
        Check.edition(x, 0, "a");
        Check.due("13: e", x.beside(0, 1, 0), PoetsBook.RANGE);
        Check.due("13: f", x.beside(0, 0, 1), PoetsBook.RANGE);
        Check.due("13: e -1", x.beside(0, -1, 0), PoetsBook.RANGE);
        Check.due("13: f -1", x.beside(0, 0, -1), PoetsBook.RANGE);
        Check.due("13: p -1", x.beside(-1, 0, 0), PoetsBook.RANGE);
    }

    private static void tree() {
        PoetsBook x = new PoetsBook();
        x.poem(0, 0, 0, 0);
        Check.due("14: no edition", x.from(0, 0), PoetsBook.RANGE);
        Check.edition(x, 0, "a b");
        Check.edition(x, 0, "a c");
        Check.edition(x, 0, "a c d");
        Check.due("14: of 0", x.from(0, 0), PoetsBook.NONE);
        Check.due("14: of 1", x.from(0, 1), 0);
        Check.due("14: of 2", x.from(0, 2), 1);
        Check.due("14: of 3", x.from(0, 3), PoetsBook.RANGE);
        Check.due("14: of -1", x.from(0, -1), PoetsBook.RANGE);
        Check.due("14: p 1", x.from(1, 0), PoetsBook.RANGE);
        x.poem(0, 0, 0, 0);
        Check.edition(x, 1, "a b");
        Check.edition(x, 1, "a c");
        Check.edition(x, 1, "a d");
        Check.due("14: of alike ones the least", x.from(1, 2), 0);
    }
}
