/** The document's edges, sentence by sentence: terms I and II, promises 1 to 14. */
public final class EdgesOfTextsTest {
    private static final String TWELVE = "abcdefghijkl";

    private EdgesOfTextsTest() {
    }

    public static void main(String[] args) {
        numbers();
        tapeLength();
        tapeIsEmptied();
        blanks();
        words();
        digits();
        ruleBounds();
        faultPlaces();
        syntax();
        outOfBounds();
        twice();
        room();
        newObject();
        feeding();
        cutting();
        passing();
        rulesStay();
        faultsOfTheLatest();
        rulesTold();
        poems();
        translators();
        editions();
        lineShapes();
        breaks();
        pageRoom();
        bestPages();
        texts();
        breakNumbers();
        laidBeside();
        trees();
        Edge.finish(1, 14);
    }

    private static PoetsBook withPoem() {
        PoetsBook x = new PoetsBook();
        x.poem(0, 0, 0, 0);
        return x;
    }

    private static String many(int n, String part) {
        return part.repeat(n);
    }

    private static void fault(String call, PoetsBook x, int kind, int place) {
        Edge.due(call + ", kind", x.fault(0), kind);
        Edge.due(call + ", place", x.fault(1), place);
    }

    private static void rulesFault(String text, int kind, int place) {
        PoetsBook x = new PoetsBook();
        Edge.due("rules '" + text + "'", Check.rules(x, text), PoetsBook.NONE);
        fault("rules '" + text + "'", x, kind, place);
    }

    private static void rulesFine(String text, int clauses) {
        PoetsBook x = new PoetsBook();
        Edge.due("rules '" + text + "'", Check.rules(x, text), clauses);
        fault("rules '" + text + "'", x, 0, -1);
    }

    private static void editionFault(String text, int kind, int place) {
        PoetsBook x = withPoem();
        Edge.due("edition '" + text + "'", Check.edition(x, 0, text), PoetsBook.NONE);
        fault("edition '" + text + "'", x, kind, place);
        Edge.due("no edition '" + text + "'", x.text(0, 0, 0), -9);
    }

    private static PoetsBook editionFine(String text, int lines, int stanzas, int words) {
        PoetsBook x = withPoem();
        Edge.due("edition '" + text + "'", Check.edition(x, 0, text), 0);
        fault("edition '" + text + "'", x, 0, -1);
        Edge.due("lines of '" + text + "'", x.text(0, 0, 0), lines);
        Edge.due("stanzas of '" + text + "'", x.text(0, 0, 1), stanzas);
        Edge.due("words of '" + text + "'", x.text(0, 0, 2), words);
        return x;
    }

    private static void leaveFault(String text, int kind, int place) {
        PoetsBook x = withPoem();
        Edge.due("leave '" + text + "'", Check.leave(x, 0, text), PoetsBook.NONE);
        fault("leave '" + text + "'", x, kind, place);
    }

    private static void leaveFine(String text) {
        PoetsBook x = withPoem();
        Edge.due("leave '" + text + "'", Check.leave(x, 0, text), 0);
        fault("leave '" + text + "'", x, 0, -1);
    }

    // ---- term I

    private static void numbers() {
        PoetsBook x = withPoem();
        x.leave(0);
        Edge.of("I", "DAYS 0 .. 29999; the CLOCK's is 0 at first.");
        Edge.due("count(0)", x.count(0), 0);
        int[] days = {0, 29999, -1, 30000, Integer.MIN_VALUE, Integer.MAX_VALUE};
        for (int day : days) {
            boolean is = day == 0 || day == 29999;
            Edge.due("book " + day, x.book(1, day), is ? 1 : PoetsBook.RANGE);
            Edge.due("again " + day, x.again(1, day), is ? 0 : PoetsBook.RANGE);
            Edge.due("may " + day, x.may(0, 0, day, 0), is ? 0 : PoetsBook.RANGE);
            Edge.due("may known " + day, x.may(0, 0, 0, day), is ? 0 : PoetsBook.RANGE);
            Edge.due("leaveOn " + day, x.leaveOn(0, day), is ? 0 : PoetsBook.RANGE);
        }
        Edge.of("I", "LANDS 0 .. 5.");
        int[] lands = {0, 5, -1, 6, 32, Integer.MIN_VALUE, Integer.MAX_VALUE};
        for (int land : lands) {
            boolean is = land == 0 || land == 5;
            Edge.due("may " + land, x.may(0, land, 0, 0), is ? 0 : PoetsBook.RANGE);
        }
        rulesFine("free 0 1;free 5 1;", 2);
        rulesFault("free 6 1;", 2, 5);
        leaveFine("lands 0 5;");
        leaveFault("lands 6;", 2, 6);
        Edge.of("I", "POETS 0 .. 19, HOLDERS 0 .. 19 (numbers alone).");
        int[] people = {0, 19, -1, 20, Integer.MIN_VALUE, Integer.MAX_VALUE};
        for (int one : people) {
            boolean is = one == 0 || one == 19;
            PoetsBook y = withPoem();
            Edge.due("poem of " + one, y.poem(one, 0, 0, 0), is ? 1 : PoetsBook.RANGE);
            Edge.due("poem owned by " + one, y.poem(0, 0, one, 0), is ? y.count(1) - 1 : PoetsBook.RANGE);
            Edge.due("dead " + one, y.dead(one, 0), is ? 1 : PoetsBook.RANGE);
            Edge.due("share " + one, y.share(one), is ? 0 : PoetsBook.RANGE);
        }
        leaveFine("apart 0 19;");
        leaveFault("apart 20;", 2, 6);
    }

    private static void tapeLength() {
        Edge.of("I", "THE TAPE has at most 1600 bytes");
        PoetsBook x = new PoetsBook();
        Check.put(x, " ".repeat(1593) + "page 7;");
        Edge.due("count(4)", x.count(4), 1600);
        Edge.due("one more feed", x.feed(0, 0, 0, 0, 0), PoetsBook.FULL);
        Edge.due("rules() of all of it", x.rules(), 1);
        Edge.due("its last clause", x.rule(0), 7);
        Check.put(x, "\n".repeat(1594) + "page 9");
        Edge.due("rules()", x.rules(), PoetsBook.NONE);
        fault("at the end of all of it", x, 1, 1600);
        PoetsBook y = withPoem();
        // 29 lines of eight words, and a last one whose word is the tape's last byte.
        String line = many(7, "abcdef ") + "abc;";
        Check.put(y, many(29, line) + " ".repeat(1600 - 29 * line.length() - 1) + "z");
        Edge.due("count(4)", y.count(4), 1600);
        Edge.due("edition of all of it", y.edition(0), 0);
        Edge.due("its words", y.text(0, 0, 2), 29 * 8 + 1);
    }

    private static void tapeIsEmptied() {
        Edge.of("I", "each call that reads it empties it, whatever it tells.");
        PoetsBook x = withPoem();
        Edge.due("rules()", Check.rules(x, "page 6;"), 1);
        Edge.due("behind rules()", x.count(4), 0);
        Edge.due("rules() with a fault", Check.rules(x, "page 7;page"), PoetsBook.NONE);
        Edge.due("behind rules() with a fault", x.count(4), 0);
        Edge.due("edition() with a fault", Check.edition(x, 0, "a;b;"), PoetsBook.NONE);
        Edge.due("behind edition() with a fault", x.count(4), 0);
        Edge.due("edition() with RANGE", Check.edition(x, 1, "a"), PoetsBook.RANGE);
        Edge.due("behind edition() with RANGE", x.count(4), 0);
        for (int e = 0; e < 3; e++) {
            Edge.due("edition()", Check.edition(x, 0, "a"), e);
            Edge.due("behind edition()", x.count(4), 0);
        }
        Edge.due("edition() with FULL", Check.edition(x, 0, "a"), PoetsBook.FULL);
        Edge.due("behind edition() with FULL", x.count(4), 0);
        Edge.due("leave() with a fault", Check.leave(x, 0, "lands"), PoetsBook.NONE);
        Edge.due("behind leave() with a fault", x.count(4), 0);
        Edge.due("leave() with RANGE", Check.leave(x, 1, "lands 0;"), PoetsBook.RANGE);
        Edge.due("behind leave() with RANGE", x.count(4), 0);
        for (int k = 0; k < 79; k++) {
            x.leave(0);
        }
        Edge.due("leave()", Check.leave(x, 0, "lands 0;"), 79);
        Edge.due("behind leave()", x.count(4), 0);
        Edge.due("leave() with FULL", Check.leave(x, 0, "lands 0;"), PoetsBook.FULL);
        Edge.due("behind leave() with FULL", x.count(4), 0);
        x.candidate(0);
        Edge.due("lay()", Check.lay(x, "A"), 0);
        Edge.due("behind lay()", x.count(4), 0);
        Edge.due("lay() of none", Check.lay(x, "AA"), PoetsBook.NONE);
        Edge.due("behind lay() of none", x.count(4), 0);
        x.poem(0, 0, 0, 0);
        x.candidate(1);
        Edge.due("lay() with STATE", Check.lay(x, "AB"), PoetsBook.STATE);
        Edge.due("behind lay() with STATE", x.count(4), 0);
        Check.put(x, "A");
        x.order(1);
        x.choose();
        Edge.due("order() and choose() don't read it", x.count(4), 1);
    }

    private static void blanks() {
        Edge.of("I", "TOKENS with any blanks (32, 10) between");
        rulesFine("page7;sum0;", 2);
        rulesFine(" \n page \n\n 7 \n ; sum\n0\n; ", 2);
        rulesFine("", 0);
        rulesFine("\n \n", 0);
        char[] none = {9, 11, 13, 0, 31, 33, 12, 127, 128, 138, 160, 255};
        for (char sign : none) {
            rulesFault("page" + sign + "7;", 1, 4);
            rulesFault("page 7;" + sign, 1, 7);
        }
        editionFine("a\nb", 1, 1, 2);
        editionFine(" a\n;\nb / c +\n", 3, 2, 3);
    }

    private static void words() {
        Edge.of("I", "WORDS (small letters, as many as there are, 12 at most)");
        editionFine(TWELVE, 1, 1, 1);
        editionFine("zzzzzzzzzzzz zzzzzzzzzzzz", 1, 1, 2);
        editionFault(TWELVE + "m", 1, 0);
        editionFault("a " + TWELVE + TWELVE, 1, 2);
        editionFine("az", 1, 1, 1);
        editionFine("a z", 1, 1, 2);
        // The neighbours of a and z, and great letters, are no tokens.
        char[] none = {'a' - 1, 'z' + 1, 'A', 'Z', 'a' + 128, '_', '-', '\''};
        for (char sign : none) {
            editionFault("b" + sign + "c", 1, 1);
        }
        leaveFine("credit " + TWELVE + ";");
        leaveFault("credit " + TWELVE + "m;", 1, 7);
        leaveFault("untiluntiluntil 5;", 1, 0);
    }

    private static void digits() {
        Edge.of("I", "N (digits, as many as there are, 5 at most)");
        PoetsBook x = new PoetsBook();
        Edge.due("rules", Check.rules(x, "page 00060;sum 99999;front 00000;free 00005 00099;"), 4);
        Edge.due("page", x.rule(0), 60);
        Edge.due("sum", x.rule(5), 99999);
        Edge.due("front", x.rule(3), 0);
        Edge.due("years of land 5", x.rule(15), 99);
        rulesFault("page 000060;", 1, 5);
        rulesFault("sum 100000;", 1, 4);
        rulesFault("sum 99999999999999999999;", 1, 4);
        rulesFault("page 4 0;", 2, 5);
        rulesFault("page 6 0;", 1, 7);
        rulesFault("page 1:;", 2, 5);
        rulesFault("page 8:;", 1, 6);
        rulesFault("page :8;", 1, 5);
        rulesFault("page -8;", 1, 5);
        rulesFault("page 8.0;", 1, 6);
        leaveFine("until 00000;");
        leaveFine("lands 0 00001;");
        leaveFault("lands 0 000001;", 1, 8);
    }

    private static void ruleBound(String word, int what, int least, int greatest, int first) {
        PoetsBook x = new PoetsBook();
        Edge.due(word + " at first", x.rule(what), first);
        Edge.due("the least", Check.rules(x, word + " " + least + ";"), 1);
        Edge.due("the least", x.rule(what), least);
        Edge.due("the greatest", Check.rules(x, word + " " + greatest + ";"), 1);
        Edge.due("the greatest", x.rule(what), greatest);
        if (least > 0) {
            Edge.due("too small", Check.rules(x, word + " " + (least - 1) + ";"), PoetsBook.NONE);
            fault("too small", x, 2, word.length() + 1);
        }
        Edge.due("too large", Check.rules(x, word + " " + (greatest + 1) + ";"), PoetsBook.NONE);
        // Six digits are no N at all.
        fault("too large", x, greatest == 99999 ? 1 : 2, word.length() + 1);
        Edge.due("it stays", x.rule(what), greatest);
        Edge.due("none told", Check.rules(x, ""), 0);
        Edge.due("as at first", x.rule(what), first);
    }

    private static void ruleBounds() {
        Edge.of("I", "page 6 .. 60 lines (20)");
        ruleBound("page", 0, 6, 60, 20);
        Edge.of("I", "sheet 2 .. 32 pages (8)");
        ruleBound("sheet", 1, 2, 32, 8);
        Edge.of("I", "title 0 .. 4 lines (2)");
        ruleBound("title", 2, 0, 4, 2);
        Edge.of("I", "front 0 .. 30 pages (4)");
        ruleBound("front", 3, 0, 30, 4);
        Edge.of("I", "sheets 1 .. 40 (4)");
        ruleBound("sheets", 4, 1, 40, 4);
        Edge.of("I", "sum 0 .. 99999 pence (99999)");
        ruleBound("sum", 5, 0, 99999, 99999);
        Edge.of("I", "most 1 .. 9 of one POET (9)");
        ruleBound("most", 6, 1, 9, 9);
        Edge.of("I", "free: a LAND, and years 0 .. 99 (70)");
        for (int land = 0; land < 6; land++) {
            ruleBound("free " + land, 10 + land, 0, 99, 70);
        }
    }

    private static void faultPlaces() {
        Edge.of("I", "KIND and PLACE (a TOKEN's first byte; the text's length at its end)");
        rulesFault("page  61 ;", 2, 6);
        rulesFault("page 7;  zz 1;", 1, 9);
        rulesFault("page", 1, 4);
        rulesFault("page \n ", 1, 7);
        rulesFault("free", 1, 4);
        rulesFault("free 1", 1, 6);
        rulesFault("free 1 1", 1, 8);
        editionFault("", 1, 0);
        editionFault("   ", 1, 3);
        editionFault("a b; \n", 1, 6);
        editionFault("a/", 1, 2);
        leaveFault("until 5 ", 1, 8);
        Edge.of("I", "the first come to as TOKENS are read one by one");
        rulesFault("page 5", 2, 5);
        rulesFault("page 5 zzz", 2, 5);
        rulesFault("page 7;page", 3, 7);
        rulesFault("free 1 1;free 1", 3, 14);
        rulesFault("zzz 5;page 5;", 1, 0);
        editionFault("a b c d e f g h i;;", 4, 16);
        leaveFault("lands 1 1 6", 3, 8);
        leaveFault("lands 6 1 1", 2, 6);
        Edge.of("I", "of one TOKEN the least KIND");
        rulesFault("page 000005;", 1, 5);
        rulesFault("page 7 5;", 1, 7);
        leaveFault("lands 1 000001;", 1, 8);
        leaveFault("until 5;until;", 3, 8);
        leaveFault("until 5 until 6;", 1, 8);
        editionFault("a b c d e f g h " + TWELVE + "m", 1, 16);
        editionFault("a b c d e f g h+i", 1, 16);
        editionFault(many(30, "a;") + "1", 1, 60);
        editionFault(many(30, "a;"), 1, 60);
        leaveFault("credit a b c d e f " + TWELVE + "m;", 1, 19);
    }

    private static void syntax() {
        Edge.of("I", "1 SYNTAX: a TOKEN (or byte that is none, a run that is too long) with which no text goes on.");
        String[] begins = {"pages 7;", "pag 7;", "Page 7;", "7;", ";", "/", "+", "lands 1;", "line 1;", "all;"};
        for (String text : begins) {
            rulesFault(text, 1, 0);
        }
        rulesFault("page;", 1, 4);
        rulesFault("page page 7;", 1, 5);
        rulesFault("page 7/", 1, 6);
        rulesFault("page 7+", 1, 6);
        rulesFault("page 7 sum 1;", 1, 7);
        rulesFault("page 7;;", 1, 7);
        rulesFault("free 1;", 1, 6);
        rulesFault("free a 1;", 1, 5);
        rulesFault("free 1 1 1;", 1, 9);
        editionFault(";", 1, 0);
        editionFault("/", 1, 0);
        editionFault("+", 1, 0);
        editionFault("5", 1, 0);
        editionFault("a;;b", 1, 2);
        editionFault("a//b", 1, 2);
        editionFault("a/;b", 1, 2);
        editionFault("a;+", 1, 2);
        editionFault("a++", 1, 2);
        editionFault("a+b", 1, 2);
        editionFault("a+5", 1, 2);
        editionFault("a5", 1, 1);
        editionFault("a,", 1, 1);
        leaveFault("page 7;", 1, 0);
        leaveFault("lands;", 1, 5);
        leaveFault("lands a;", 1, 6);
        leaveFault("lands 1/", 1, 7);
        leaveFault("fee 5;", 1, 5);
        leaveFault("fee 5 5;", 1, 6);
        leaveFault("fee line;", 1, 4);
        leaveFault("fee 5 lines;", 1, 6);
        leaveFault("fee 5 lin;", 1, 6);
        leaveFault("fee 5 credit;", 1, 6);
        leaveFault("fee 5 all 5;", 1, 10);
        leaveFault("apart;", 1, 5);
        leaveFault("edition 1 2;", 1, 10);
        leaveFault("credit;", 1, 6);
        leaveFault("credit a 5;", 1, 9);
        leaveFault("credit a/b;", 1, 8);
        leaveFault("credit a+;", 1, 8);
    }

    private static void outOfBounds() {
        Edge.of("I", "2 RANGE: an N out of its bounds.");
        rulesFault("free 99999 1;", 2, 5);
        rulesFault("free 32 1;", 2, 5);
        rulesFault("free 0 99999;", 2, 7);
        rulesFault("most 0;", 2, 5);
        leaveFault("lands 32;", 2, 6);
        leaveFault("lands 0 99999;", 2, 8);
        leaveFault("apart 32;", 2, 6);
        leaveFault("until 99999;", 2, 6);
        leaveFault("fee 99999 all;", 2, 4);
        leaveFault("edition 99999;", 2, 8);
    }

    private static void twice() {
        Edge.of("I", "3 TWICE: a clause's first WORD that was told already");
        String[] clauses = {"page 6;", "sheet 6;", "title 4;", "front 6;", "sheets 6;", "sum 6;", "most 6;"};
        for (String clause : clauses) {
            rulesFault(clause + clause, 3, clause.length());
            rulesFault(clause + "free 1 1;" + clause, 3, clause.length() + 9);
        }
        rulesFine("sheet 6;sheets 6;", 2);
        rulesFine("sheets 6;sheet 6;", 2);
        String[] leaves = {"lands 1;", "until 1;", "fee 1 all;", "apart 1;", "edition 1;", "credit a;"};
        for (String clause : leaves) {
            leaveFault(clause + clause, 3, clause.length());
            for (String other : leaves) {
                if (!other.equals(clause)) {
                    leaveFine(clause + other);
                    leaveFault(clause + other + clause, 3, clause.length() + other.length());
                }
            }
        }
        // Told as a word of another clause isn't told.
        leaveFine("credit lands until fee;lands 1;until 1;fee 1 all;");
        PoetsBook x = new PoetsBook();
        Edge.due("a text of its own", Check.rules(x, "page 7;free 1 1;"), 2);
        Edge.due("another text", Check.rules(x, "page 8;free 1 2;"), 2);
        Edge.of("I", "(of free: the LAND)");
        rulesFine("free 1 1;free 2 1;free 0 1;free 5 1;free 3 1;free 4 1;", 6);
        for (int land = 0; land < 6; land++) {
            rulesFault("free " + land + " 1;sum 1;free " + land + " 2;", 3, 20);
            rulesFault("free " + land + " 1;free 0" + land + " 200;", 3, 14);
            int other = (land + 1) % 6;
            rulesFault("free " + land + " 1;free " + other + " 1;free " + land + " 1;", 3, 23);
        }
        Edge.of("I", "an N within one clause's row again");
        leaveFault("lands 0 0;", 3, 8);
        leaveFault("lands 5 0 05;", 3, 10);
        leaveFault("lands 0 1 2 3 4 5 5;", 3, 18);
        leaveFault("apart 19 0 19;", 3, 11);
        leaveFine("lands 1 2;apart 1 2;until 1;edition 1;");
        rulesFine("free 2 2;", 1);
    }

    private static void room() {
        Edge.of("I", "4 ROOM: a line, a word of a line, a word of a credit too many, at its first TOKEN.");
        editionFine(many(29, "a;") + "a", 30, 1, 30);
        editionFault(many(30, "a;") + "a", 4, 60);
        editionFault(many(30, "a;") + " \n b c", 4, 63);
        editionFault(many(30, "a/") + "a", 4, 60);
        editionFault(many(29, "a;") + "a+;b", 4, 61);
        editionFine("a b c d e f g h", 1, 1, 8);
        editionFine("a b c d e f g h+;a b c d e f g h", 2, 1, 16);
        editionFault("a b c d e f g h  i", 4, 17);
        editionFault("a;a b c d e f g h ijk", 4, 18);
        leaveFine("credit a b c d e f;");
        leaveFault("credit a b c d e f  g;", 4, 20);
    }

    // ---- promises 1 to 10

    private static void newObject() {
        Edge.of(1, "Day 0, no POEMS; THE BOOK in LAND 0 on day 0, no CANDIDATES, no row.");
        PoetsBook x = new PoetsBook();
        int[] counts = new int[7];
        for (int what = 0; what < 7; what++) {
            counts[what] = x.count(what);
        }
        Edge.dues("count", counts, 0, 0, 0, 0, 0, 1, 0);
        Edge.due("no poem", x.leaveOn(0, 0), PoetsBook.RANGE);
        Edge.due("no leave", x.left(0, 0), -9);
        Edge.due("no candidate", x.about(0, 0), -9);
        Edge.due("no row", x.printed(0), 0);
        Edge.due("no row", x.place(0, 0), PoetsBook.NONE);
        Edge.due("no row", x.index(0), PoetsBook.NONE);
        Edge.due("no row", x.withdraw(0), PoetsBook.RANGE);
        Edge.due("no row", x.royalty(0), PoetsBook.STATE);
        Edge.due("no candidates to order", x.order(1), PoetsBook.RANGE);
        Edge.due("no candidates to lay", Check.lay(x, "A"), PoetsBook.NONE);
        Edge.due("nobody is dead", x.dead(0, 0), 1);
        PoetsBook y = withPoem();
        Edge.due("another object's poems are its own", new PoetsBook().count(1), 0);
        Edge.due("another object's poems are its own", y.count(1), 1);
    }

    private static void feeding() {
        Edge.of(2, "Twenty bytes come behind THE TAPE, the highest of each int first");
        PoetsBook x = withPoem();
        Edge.due("feed", x.feed(0x61626364, 0x65666768, 0x696A6B6C, 0x20782079, 0x3B7A3B77), 20);
        Edge.due("edition", x.edition(0), 0);
        Edge.due("lines", x.text(0, 0, 0), 3);
        Edge.due("words", x.text(0, 0, 2), 5);
        // A byte of 128 or more stays what it is, and is no token: here it is the eighteenth.
        x.feed(0x61626364, 0x65666768, 0x696A6B6C, 0x20782079, 0x3BFF3B77);
        Edge.due("edition", x.edition(0), PoetsBook.NONE);
        fault("a high byte", x, 1, 17);
        x.feed(0x61616161, 0x20616161, 0x20616161, 0x20616161, 0x20616161);
        x.end(19);
        Edge.due("behind 19", x.feed(0x62202020, 0, 0, 0, 0), 39);
        x.end(20);
        Edge.due("edition", x.edition(0), 1);
        Edge.due("the last word is another one", x.beside(0, 1, 1), 0);
        Edge.due("words", x.text(0, 1, 2), 5);
        Edge.of(2, "how many it has; FULL when there would be more than 1600.");
        PoetsBook y = new PoetsBook();
        for (int n = 20; n <= 1600; n += 20) {
            Edge.due("feed", y.feed(0x20202020, 0x20202020, 0x20202020, 0x20202020, 0x20202020), n);
        }
        Edge.due("the 81st", y.feed(0x7A7A7A7A, 0, 0, 0, 0), PoetsBook.FULL);
        Edge.due("none of it came", y.count(4), 1600);
        Edge.due("none of it came", y.rules(), 0);
        for (int n = 0; n < 79; n++) {
            y.feed(0, 0, 0, 0, 0);
        }
        Edge.due("1580 and 20", y.feed(0, 0, 0, 0, 0), 1600);
        y.end(1581);
        Edge.due("1581 and 20", y.feed(0, 0, 0, 0, 0), PoetsBook.FULL);
        Edge.due("none of it came", y.count(4), 1581);
        y.end(1580);
        Edge.due("1580 and 20", y.feed(0, 0, 0, 0, 0), 1600);
    }

    private static void cutting() {
        Edge.of(3, "THE TAPE has its first n bytes alone: n; NONE when it has not so many, or n is below 0.");
        PoetsBook x = new PoetsBook();
        Edge.due("end(0) of none", x.end(0), 0);
        Edge.due("end(1) of none", x.end(1), PoetsBook.NONE);
        x.feed(0x70616765, 0x20373B20, 0x7A7A7A7A, 0x7A7A7A7A, 0x7A7A7A7A);
        Edge.due("end(21)", x.end(21), PoetsBook.NONE);
        Edge.due("end(-1)", x.end(-1), PoetsBook.NONE);
        Edge.due("end(min)", x.end(Integer.MIN_VALUE), PoetsBook.NONE);
        Edge.due("end(max)", x.end(Integer.MAX_VALUE), PoetsBook.NONE);
        Edge.due("it stays", x.count(4), 20);
        Edge.due("end(20)", x.end(20), 20);
        Edge.due("end(7)", x.end(7), 7);
        Edge.due("what was cut is gone", x.end(8), PoetsBook.NONE);
        Edge.due("the first seven", x.rules(), 1);
        Edge.due("the first seven", x.rule(0), 7);
    }

    private static void passing() {
        Edge.of(4, "So many days (1 .. 9999) pass: the CLOCK's; RANGE, also beyond 29999.");
        PoetsBook x = new PoetsBook();
        int[] none = {0, -1, 10000, Integer.MIN_VALUE, Integer.MAX_VALUE};
        for (int n : none) {
            Edge.due("pass " + n, x.pass(n), PoetsBook.RANGE);
            Edge.due("none passed", x.count(0), 0);
        }
        Edge.due("pass 1", x.pass(1), 1);
        Edge.due("pass 9999", x.pass(9999), 10000);
        Edge.due("pass 9999", x.pass(9999), 19999);
        Edge.due("pass 9999", x.pass(9999), 29998);
        Edge.due("beyond 29999", x.pass(2), PoetsBook.RANGE);
        Edge.due("beyond 29999", x.pass(9999), PoetsBook.RANGE);
        Edge.due("it stays", x.count(0), 29998);
        Edge.due("pass 1", x.pass(1), 29999);
        Edge.due("pass 1", x.pass(1), PoetsBook.RANGE);
        Edge.due("it stays", x.count(0), 29999);
    }

    private static void rulesStay() {
        Edge.of(5, "how many clauses; NONE with a FAULT (they stay).");
        PoetsBook x = new PoetsBook();
        Edge.due("none", Check.rules(x, ""), 0);
        Edge.due("one", Check.rules(x, "free 3 5;"), 1);
        String all = "page 7;sheet 3;title 1;front 5;sheets 6;sum 8;most 2;"
                + "free 0 10;free 1 11;free 2 12;free 3 13;free 4 14;free 5 15;";
        Edge.due("thirteen", Check.rules(x, all), 13);
        String[] faulty = {"page 8;sheet 4;title 2;front 6;sheets 7;sum 9;most 3;free 0 0;free 5 0;zzz",
            "page 8;sum 5", "free 0 1;free 0 1;", all + "page 7;", all + "free 5 15;", all + "zzz"};
        for (String text : faulty) {
            Edge.due(text, Check.rules(x, text), PoetsBook.NONE);
            int[] rules = new int[16];
            for (int what = 0; what < 16; what++) {
                rules[what] = x.rule(what);
            }
            Edge.dues("rule behind " + text, rules, 7, 3, 1, 5, 6, 8, 2, -1, -1, -1, 10, 11, 12, 13, 14, 15);
        }
        Edge.of(5, "(What it doesn't tell is as at first.)");
        Edge.due("one", Check.rules(x, "title 0;"), 1);
        int[] rules = new int[16];
        for (int what = 0; what < 16; what++) {
            rules[what] = x.rule(what);
        }
        Edge.dues("rule", rules, 20, 8, 0, 4, 4, 99999, 9, -1, -1, -1, 70, 70, 70, 70, 70, 70);
    }

    private static void faultsOfTheLatest() {
        Edge.of(6, "its FAULT's KIND, 0 without (and ahead of any), 1: its PLACE (NONE).");
        PoetsBook x = withPoem();
        fault("ahead of any", x, 0, -1);
        Check.rules(x, "page 61;");
        fault("rules", x, 2, 5);
        Check.edition(x, 0, "a;;");
        fault("edition", x, 1, 2);
        Check.leave(x, 0, "until 1;until");
        fault("leave", x, 3, 8);
        Check.rules(x, "");
        fault("without", x, 0, -1);
        Check.rules(x, "page 61;");
        Check.edition(x, 0, "a");
        fault("without", x, 0, -1);
        Check.rules(x, "page 61;");
        Check.leave(x, 0, "");
        fault("without", x, 0, -1);
        Edge.of(6, "Of the latest rules(), edition() or leave() that was not RANGE, FULL");
        Check.edition(x, 0, "a");
        Check.edition(x, 0, "a");
        Check.rules(x, "page 61;");
        Edge.due("RANGE", Check.edition(x, 1, "a"), PoetsBook.RANGE);
        fault("edition() with RANGE", x, 2, 5);
        Edge.due("FULL", Check.edition(x, 0, "a"), PoetsBook.FULL);
        fault("edition() with FULL", x, 2, 5);
        Edge.due("RANGE", Check.leave(x, 1, "zzz"), PoetsBook.RANGE);
        fault("leave() with RANGE", x, 2, 5);
        for (int k = x.count(2); k < 80; k++) {
            x.leave(0);
        }
        Check.rules(x, "page 61;");
        Edge.due("FULL", Check.leave(x, 0, "zzz"), PoetsBook.FULL);
        fault("leave() with FULL", x, 2, 5);
        Check.lay(x, "zzz");
        fault("lay() is none of them", x, 2, 5);
        Edge.of(6, "NONE for another what.");
        int[] others = {2, -1, 3, Integer.MIN_VALUE, Integer.MAX_VALUE};
        for (int what : others) {
            Edge.due("fault " + what, x.fault(what), PoetsBook.NONE);
        }
    }

    private static void rulesTold() {
        Edge.of(7, "10 + l: years of LAND l. NONE for others.");
        PoetsBook x = new PoetsBook();
        Check.rules(x, "free 0 1;free 5 6;");
        Edge.due("rule(10)", x.rule(10), 1);
        Edge.due("rule(15)", x.rule(15), 6);
        int[] others = {-1, 7, 8, 9, 16, 17, Integer.MIN_VALUE, Integer.MAX_VALUE};
        for (int what : others) {
            Edge.due("rule " + what, x.rule(what), PoetsBook.NONE);
        }
    }

    private static void poems() {
        Edge.of("II", "of a year (0 .. 2100), owned by a HOLDER, with a WORTH (0 .. 99)");
        PoetsBook x = new PoetsBook();
        int[] ends = {Integer.MIN_VALUE, Integer.MAX_VALUE, -1};
        for (int end : ends) {
            Edge.due("poet " + end, x.poem(end, 0, 0, 0), PoetsBook.RANGE);
            Edge.due("year " + end, x.poem(0, end, 0, 0), PoetsBook.RANGE);
            Edge.due("holder " + end, x.poem(0, 0, end, 0), PoetsBook.RANGE);
            Edge.due("worth " + end, x.poem(0, 0, 0, end), PoetsBook.RANGE);
        }
        Edge.due("year 2101", x.poem(0, 2101, 0, 0), PoetsBook.RANGE);
        Edge.due("worth 100", x.poem(0, 0, 0, 100), PoetsBook.RANGE);
        Edge.of("II", "POEMS, at most 40, numbered from 0");
        Edge.due("none came", x.count(1), 0);
        Edge.due("the least", x.poem(0, 0, 0, 0), 0);
        Edge.due("the greatest", x.poem(19, 2100, 19, 99), 1);
        for (int p = 2; p < 40; p++) {
            Edge.due("poem", x.poem(0, 0, 0, 0), p);
        }
        Edge.of(8, "RANGE: no such POET, year, HOLDER, WORTH; FULL.");
        Edge.due("the 41st", x.poem(0, 0, 0, 0), PoetsBook.FULL);
        Edge.due("none came", x.count(1), 40);
        Edge.due("RANGE ahead of FULL", x.poem(0, 0, 0, 100), PoetsBook.RANGE);
        Edge.due("the 40th is there", x.leaveOn(39, 0), PoetsBook.NONE);
        Edge.due("the 41st isn't", x.leaveOn(40, 0), PoetsBook.RANGE);
    }

    private static void translators() {
        Edge.of(9, "A POEM has a TRANSLATOR with so many hundredths (1 .. 99): 1");
        for (int hundredths = -1; hundredths <= 101; hundredths++) {
            boolean is = hundredths >= 1 && hundredths <= 99;
            Edge.due("hundredths " + hundredths, withPoem().translated(0, 1, hundredths), is ? 1 : PoetsBook.RANGE);
        }
        Edge.of(9, "RANGE: no such POEM, POET, hundredths, or its own POET; STATE: it has one.");
        PoetsBook x = new PoetsBook();
        Edge.due("no poem", x.translated(0, 1, 1), PoetsBook.RANGE);
        x.poem(5, 0, 0, 0);
        int[] none = {-1, 20, 5, Integer.MIN_VALUE, Integer.MAX_VALUE};
        for (int poet : none) {
            Edge.due("poet " + poet, x.translated(0, poet, 1), PoetsBook.RANGE);
        }
        Edge.due("poem 1", x.translated(1, 1, 1), PoetsBook.RANGE);
        Edge.due("poem -1", x.translated(-1, 1, 1), PoetsBook.RANGE);
        Edge.due("poem max", x.translated(Integer.MAX_VALUE, 1, 1), PoetsBook.RANGE);
        Edge.due("poet 19", x.translated(0, 19, 1), 1);
        Edge.due("it has one", x.translated(0, 18, 1), PoetsBook.STATE);
        Edge.due("it has this one", x.translated(0, 19, 1), PoetsBook.STATE);
        for (int poet : none) {
            Edge.due("RANGE ahead of STATE, poet " + poet, x.translated(0, poet, 1), PoetsBook.RANGE);
        }
        Edge.due("RANGE ahead of STATE", x.translated(0, 1, 100), PoetsBook.RANGE);
        x.poem(5, 0, 0, 0);
        Edge.due("poet 0 of another poem", x.translated(1, 0, 99), 1);
        Edge.due("it has one, poet 0", x.translated(1, 0, 99), PoetsBook.STATE);
    }

    private static void editions() {
        Edge.of("II", "EDITIONS of a POEM 0, 1, .. (at most 3)");
        PoetsBook x = withPoem();
        x.poem(0, 0, 0, 0);
        for (int e = 0; e < 3; e++) {
            Edge.due("edition of 0", Check.edition(x, 0, "a"), e);
            Edge.due("with a fault none comes", Check.edition(x, 1, ""), PoetsBook.NONE);
            Edge.due("edition of 1", Check.edition(x, 1, "a;b"), e);
        }
        Edge.of(10, "RANGE: no such POEM; FULL: the fourth; NONE with a FAULT.");
        Edge.due("the fourth", Check.edition(x, 0, "a"), PoetsBook.FULL);
        Edge.due("the fourth, with a fault", Check.edition(x, 0, ""), PoetsBook.FULL);
        Edge.due("there are three", x.text(0, 3, 0), -9);
        int[] none = {2, -1, 40, Integer.MIN_VALUE, Integer.MAX_VALUE};
        for (int p : none) {
            Edge.due("poem " + p, Check.edition(x, p, "a"), PoetsBook.RANGE);
            Edge.due("poem " + p + ", with a fault", Check.edition(x, p, ""), PoetsBook.RANGE);
        }
        Edge.due("another one is as it was", x.text(1, 2, 0), 2);
    }

    // ---- term II and promises 11 to 14

    private static void lineShapes() {
        Edge.of("II", "LINE = W {W} [\"+\"]: at most 30 LINES of at most 8 words; / begins a STANZA");
        editionFine("a", 1, 1, 1);
        editionFine("a+", 1, 1, 1);
        editionFine("a;b", 2, 1, 2);
        editionFine("a/b", 2, 2, 2);
        editionFine("a+/b+;c+", 3, 2, 3);
        editionFine(many(29, "a/") + "a", 30, 30, 30);
        editionFine(many(28, "a;") + "a/a", 30, 2, 30);
        editionFine(many(29, "a b c d e f g h;") + "a b c d e f g h+", 30, 1, 240);
    }

    private static void pages(String rules, String text, int squares, int... breaks) {
        PoetsBook x = withPoem();
        String name = rules + " '" + text + "'";
        Edge.due("rules " + name, Check.rules(x, rules) < 0 ? 1 : 0, 0);
        Edge.due("edition " + name, Check.edition(x, 0, text), 0);
        Edge.due("pages " + name, x.text(0, 0, 3), breaks.length + 1);
        Edge.due("squares " + name, x.text(0, 0, 4), squares);
        for (int i = 0; i < breaks.length; i++) {
            Edge.due("break " + i + " " + name, x.breakAt(0, 0, i), breaks[i]);
        }
        Edge.due("no more breaks " + name, x.breakAt(0, 0, breaks.length), PoetsBook.NONE);
    }

    private static void noPages(String rules, String text) {
        PoetsBook x = withPoem();
        String name = rules + " '" + text + "'";
        Edge.due("rules " + name, Check.rules(x, rules) < 0 ? 1 : 0, 0);
        Edge.due("edition " + name, Check.edition(x, 0, text), 0);
        Edge.due("pages " + name, x.text(0, 0, 3), PoetsBook.NONE);
        Edge.due("squares " + name, x.text(0, 0, 4), PoetsBook.NONE);
        Edge.due("breaks " + name, x.breakAt(0, 0, 0), PoetsBook.NONE);
    }

    private static void breaks() {
        // The first page has room for two lines, the others for six.
        String two = "page 6;title 4;";
        Edge.of("II", "A PAGE may break behind a LINE (not the last one) without +, if that ends a STANZA");
        pages(two, "a/b;c;d;e", 1, 0);
        pages(two, "a;b/c", 0, 1);
        pages(two, "a;b+", 0);
        noPages(two, "a+/b;c;d;e");
        noPages(two, "a;b+/c");
        pages("page 6;title 0;", "a;b;c;d;e;f", 0);
        Edge.of("II", "or if its STANZA has two LINES or more both ahead of the break and behind it.");
        pages(two, "a;b;c;d", 0, 1);
        noPages(two, "a;b;c");
        noPages(two, "a;b+;c;d");
        // Not behind one line, nor ahead of one.
        pages("page 6;title 3;", "a;b;c;d", 1, 1);
        pages("page 6;title 3;", "a;b;c;d;e", 0, 2);
        noPages("page 6;title 3;", "a;b+;c;d");
        // Lines of another stanza don't count, on either side.
        pages("page 6;title 2;", "x/a;b;c", 9, 0);
        noPages("page 6;title 2;", "x+/a;b;c");
        noPages("page 6;title 3;", "a;b+;c;d/e");
        pages("page 6;title 3;", "a;b+;c;d;e", 0, 2);
        Edge.of("II", "+ : no page breaks behind this LINE.");
        pages("page 6;title 2;", "a;b;c;d;e;f", 0, 3);
        pages("page 6;title 2;", "a;b;c;d+;e;f", 1, 2);
        pages("page 6;title 2;", "a;b;c+;d+;e;f", 4, 1);
        noPages("page 6;title 2;", "a;b+;c+;d+;e;f");
        PoetsBook x = withPoem();
        Check.rules(x, "page 6;title 2;");
        Check.edition(x, 0, "a;b+;c+;d+;e;f");
        Check.edition(x, 0, "a+;b+;c+;d+;e+;;");
        Edge.due("edition 1", Check.edition(x, 0, "a;b;c;d;e;f"), 1);
        Edge.due("an earlier text's + is none of this one's", x.breakAt(0, 1, 0), 3);
        Edge.due("the earlier text has no pages still", x.text(0, 0, 3), PoetsBook.NONE);
    }

    private static void pageRoom() {
        Edge.of("II", "A PAGE has room for page lines: on the first one title lines, then LINES");
        for (int title = 0; title <= 4; title++) {
            String rules = "page 6;title " + title + ";";
            pages(rules, many(5 - title, "a;") + "a", 0);
            // One line more: the break leaves two behind it, so one stays empty.
            if (title < 3) {
                pages(rules, many(6 - title, "a;") + "a", 1, 4 - title);
            } else if (title == 4) {
                noPages(rules, "a;a;a");
            }
            pages(rules, many(5 - title, "a;") + "a/" + many(5, "a;") + "a", 0, 5 - title);
        }
        // Thirty stanzas of a line each take 59 lines.
        pages("page 60;title 1;", many(29, "a/") + "a", 0);
        pages("page 60;title 2;", many(29, "a/") + "a", 1, 28);
        pages("page 60;title 4;", many(29, "a/") + "a", 1, 27);
        Edge.of("II", "and one empty line between two STANZAS on one page.");
        pages("page 6;title 0;", "a;b;c/d;e", 0);
        pages("page 6;title 0;", "a;b;c/d;e;f", 9, 2);
        pages("page 6;title 0;", "a/b/c", 0);
        pages("page 6;title 0;", "a/b;c/d", 0);
        pages("page 6;title 0;", "a/b/c/d", 1, 2);
        // None ahead of the first stanza of a page, none behind its last one.
        pages("page 6;title 0;", "a;b;c;d;e;f/g;h;i;j;k;l/m;n;o;p;q;r", 0, 5, 11);
    }

    private static void bestPages() {
        Edge.of("II", "PAGES of an EDITION: the fewest");
        // Five pages would leave a sum of squares of 3.
        String few = "a;a;a;a;a;a;a;a+;a;a;a+;a/a;a;a+;a/a;a;a/a+";
        PoetsBook x = withPoem();
        Check.rules(x, "page 6;title 0;");
        Check.edition(x, 0, few);
        Edge.due("pages", x.text(0, 0, 3), 4);
        Edge.due("squares", x.text(0, 0, 4), 4);
        Edge.of("II", "then the least sum of squares of what is left empty on all pages but the last");
        pages("page 6;title 0;", "a;b;c;d;e;f;g", 1, 4);
        pages("page 6;title 0;", "a;b;c;d;e;f;g;h", 0, 5);
        // Five and five lines rather than four and six, which leave as much empty in all.
        pages("page 6;title 0;", "a+;a+;a+;a;a;a+;a+;a+;a+;a;a+;a+;a+;a", 2, 4, 9);
        pages("page 6;title 0;", "a+;a+;a+;a;a+;a+;a+;a+;a+;a;a+;a+;a+;a", 4, 3, 9);
        Edge.of("II", "then the least row of breaks (LINES behind which, numbered from 0).");
        pages("page 6;title 0;", many(12, "a;") + "a", 1, 4, 10);
        pages("page 6;title 0;", many(18, "a;") + "a", 1, 4, 10, 16);
        Edge.of("II", "(None, if no way is.)");
        noPages("page 6;title 0;", "a+;a+;a+;a+;a+;a+;a");
        noPages("page 6;title 0;", "a;a;a;a;a;a/a+;a+;a+;a+;a+;a+;a");
        pages("page 6;title 0;", "a+;a+;a+;a+;a+;a", 0);
    }

    private static void texts() {
        Edge.of(11, "3: PAGES (NONE), 4: the sum of squares of PAGES (NONE). -9 when there is none such.");
        PoetsBook x = withPoem();
        Edge.due("no edition", x.text(0, 0, 0), -9);
        Check.edition(x, 0, "a;b;c/d e");
        int[] dues = {4, 2, 5, 1, 0};
        for (int what = 0; what < 5; what++) {
            Edge.due("text " + what, x.text(0, 0, what), dues[what]);
        }
        int[] none = {-1, 5, 9, Integer.MIN_VALUE, Integer.MAX_VALUE};
        for (int what : none) {
            Edge.due("what " + what, x.text(0, 0, what), -9);
        }
        int[] others = {-1, 1, 3, 40, Integer.MIN_VALUE, Integer.MAX_VALUE};
        for (int other : others) {
            for (int what = -1; what < 6; what++) {
                Edge.due("edition " + other, x.text(0, other, what), -9);
                Edge.due("poem " + other, x.text(other, 0, what), -9);
            }
        }
        Check.rules(x, "page 6;title 4;");
        Edge.due("no pages by these rules", x.text(0, 0, 3), PoetsBook.NONE);
        Edge.due("no pages by these rules", x.text(0, 0, 4), PoetsBook.NONE);
        Edge.due("its lines", x.text(0, 0, 0), 4);
        Check.rules(x, "page 6;title 3;");
        Edge.due("pages by these rules", x.text(0, 0, 3), 2);
        Edge.due("pages by these rules", x.text(0, 0, 4), 0);
        Check.rules(x, "page 5;");
        Edge.due("rules with a fault change nothing", x.text(0, 0, 3), 2);
        Check.rules(x, "page 7;title 3;");
        Edge.due("pages by these rules", x.text(0, 0, 4), 1);
        Check.rules(x, "page 9;title 3;");
        Edge.due("pages by these rules", x.text(0, 0, 3), 1);
        int[] titles = {4, 0, 4, 1, 3};
        int[] pages = {-1, 1, -1, 1, 2};
        for (int k = 0; k < titles.length; k++) {
            Check.rules(x, "page 6;title " + titles[k] + ";");
            Edge.due("title " + titles[k], x.text(0, 0, 3), pages[k]);
        }
    }

    private static void breakNumbers() {
        Edge.of(12, "The i-th break of its PAGES: the LINE behind which; NONE.");
        PoetsBook x = withPoem();
        Check.rules(x, "page 6;title 0;");
        Check.edition(x, 0, many(12, "a;") + "a");
        Edge.due("the first", x.breakAt(0, 0, 0), 4);
        Edge.due("the second", x.breakAt(0, 0, 1), 10);
        int[] none = {2, -1, 12, 13, 30, Integer.MIN_VALUE, Integer.MAX_VALUE};
        for (int i : none) {
            Edge.due("break " + i, x.breakAt(0, 0, i), PoetsBook.NONE);
            Edge.due("edition " + i, x.breakAt(0, i, 0), PoetsBook.NONE);
            Edge.due("poem " + i, x.breakAt(i, 0, 0), PoetsBook.NONE);
        }
        Check.rules(x, "");
        Edge.due("one page alone", x.breakAt(0, 0, 0), PoetsBook.NONE);
        Check.rules(x, "page 6;title 4;");
        Edge.due("by the rules of today", x.breakAt(0, 0, 0), 1);
        Edge.due("by the rules of today", x.breakAt(0, 0, 1), 7);
        Edge.due("by the rules of today", x.breakAt(0, 0, 2), PoetsBook.NONE);
    }

    private static void besides(String one, String other, int cost) {
        PoetsBook x = withPoem();
        Check.edition(x, 0, one);
        Check.edition(x, 0, other);
        Edge.due("'" + one + "' beside '" + other + "'", x.beside(0, 0, 1), cost);
        Edge.due("'" + other + "' beside '" + one + "'", x.beside(0, 1, 0), cost);
    }

    private static void laidBeside() {
        Edge.of("II", "a LINE left out or put in costs its words");
        besides("a;b c d", "a", 3);
        besides("b c d;a", "a", 3);
        besides("a", "b c d e f g h i;a;k", 9);
        Edge.of("II", "a LINE made another one: the fewest words put in, left out or made others.");
        besides("a b c d e f g h", "i k l m n o p q", 8);
        besides("a b c d e f g h", "b c d e f g h a", 2);
        besides("a b c", "a c", 1);
        besides("a c", "a b c", 1);
        besides("a b c", "c b a", 2);
        besides("abcdefghijkl", "abcdefghijkm", 1);
        besides("a", "aa", 1);
        Edge.of("II", "The least cost.");
        besides("a", "a", 0);
        besides("a;b;c", "a/b+;c+", 0);
        besides("a b;c d", "a b c d", 4);
        besides("a b c;x", "x;a b c", 2);
        besides("x;a b c", "a b d;x", 3);
        String whole = "a b c d e f g h;";
        besides(many(29, whole) + "a b c d e f g h", many(29, "i k l m n o p q;") + "i k l m n o p q", 240);
        besides(many(29, whole) + "a b c d e f g h", "z", 240);
        Edge.of(13, "Two EDITIONS of a POEM LAID BESIDE one another: the cost; RANGE: no such.");
        PoetsBook x = withPoem();
        Edge.due("no edition", x.beside(0, 0, 0), PoetsBook.RANGE);
        Check.edition(x, 0, "a b");
        Check.edition(x, 0, "a c d");
        Edge.due("with itself", x.beside(0, 0, 0), 0);
        Edge.due("with itself", x.beside(0, 1, 1), 0);
        int[] none = {2, -1, 3, Integer.MIN_VALUE, Integer.MAX_VALUE};
        for (int other : none) {
            Edge.due("e " + other, x.beside(0, other, 0), PoetsBook.RANGE);
            Edge.due("f " + other, x.beside(0, 0, other), PoetsBook.RANGE);
            Edge.due("both " + other, x.beside(0, other, other), PoetsBook.RANGE);
            Edge.due("p " + other, x.beside(other, 0, 0), PoetsBook.RANGE);
        }
        Check.edition(x, 0, "a c d e f");
        Edge.due("0 and 1", x.beside(0, 0, 1), 2);
        Edge.due("0 and 2", x.beside(0, 2, 0), 4);
        Edge.due("1 and 2", x.beside(0, 1, 2), 2);
        Edge.due("2 and 2", x.beside(0, 2, 2), 0);
    }

    private static void trees() {
        Edge.of("II", "each but 0 comes of one of those with lesser numbers");
        PoetsBook x = withPoem();
        Check.edition(x, 0, "a b c");
        Check.edition(x, 0, "d e f");
        Check.edition(x, 0, "d e f");
        Edge.due("1, though 2 is nearer", x.from(0, 1), 0);
        Edge.due("2", x.from(0, 2), 1);
        Edge.of("II", "(of those the least)");
        PoetsBook y = withPoem();
        Check.edition(y, 0, "a b c");
        Check.edition(y, 0, "a b d");
        Check.edition(y, 0, "a b e");
        Edge.due("alike ones", y.from(0, 2), 0);
        Edge.of(14, "of which EDITION e comes; NONE for 0; RANGE.");
        Edge.due("0", y.from(0, 0), PoetsBook.NONE);
        int[] none = {3, -1, Integer.MIN_VALUE, Integer.MAX_VALUE};
        for (int other : none) {
            Edge.due("e " + other, y.from(0, other), PoetsBook.RANGE);
            Edge.due("p " + other, y.from(other, 0), PoetsBook.RANGE);
        }
        Edge.due("p 1", y.from(1, 0), PoetsBook.RANGE);
        Edge.due("0 of no edition", withPoem().from(0, 0), PoetsBook.RANGE);
    }
}
