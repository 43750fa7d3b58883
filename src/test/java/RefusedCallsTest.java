import java.util.ArrayList;
import java.util.List;
import java.util.function.IntSupplier;

/** A call that is refused leaves everything as it was, but for the tape that it read and the fault that it told. */
public final class RefusedCallsTest {
    private static final int MIN = Integer.MIN_VALUE;
    private static final int MAX = Integer.MAX_VALUE;

    private RefusedCallsTest() {
    }

    public static void main(String[] args) {
        refusedByNumbers(rich());
        refusedByNumbers(full(rich()));
        refusedTexts(rich());
        refusedWhenFull(full(rich()));
        refusedRows(rich());
        refusedByState(rich());
        refusedChoice(rich());
        Check.finish();
    }

    /** A book in which every call has told something. */
    private static PoetsBook rich() {
        PoetsBook x = new PoetsBook();
        Check.rules(x, "page 6;title 1;front 3;sheet 4;sheets 9;sum 500;most 2;free 1 1;free 2 0;");
        x.pass(30);
        for (int p = 0; p < 8; p++) {
            x.poem(p % 5, 1900 + 7 * p % 11, p + 3, 10 + p);
            Check.edition(x, p, "ab c" + ";a b c".repeat(p) + "/d e;f");
            Check.leave(x, p, "lands 0 1;fee " + p + " line;until " + (100 + p) + ";credit a b;");
        }
        for (int c = 0; c < 8; c++) {
            x.candidate(7 - c);
        }
        Check.edition(x, 2, "a b c;d");
        x.translated(3, 9, 25);
        x.dead(1, 5);
        x.gone(7, 90);
        x.pass(3);
        Check.leave(x, 4, "lands 0 1 2;apart 1;edition 0;");
        x.book(3, 40);
        Check.holds("royalty() tells", Check.lay(x, "DCBA") >= 0 && x.royalty(1234) == 1);
        tellAgain(x);
        Check.rules(x, "page 99;");
        Check.put(x, "page 7;");
        return x;
    }

    private static PoetsBook full(PoetsBook x) {
        for (int p = x.count(1); p < 40; p++) {
            x.poem(p % 20, 1950, 0, 1);
        }
        x.end(0);
        for (int k = x.count(2); k < 80; k++) {
            x.leave(39);
        }
        for (int p = 8; x.count(3) < 14; p++) {
            Check.edition(x, p, "z");
            x.candidate(p);
        }
        Check.edition(x, 2, "a");
        while (x.dead(19, 7) != PoetsBook.FULL) {
            Check.holds("no more than 60 are told", x.count(0) == 33);
        }
        tellAgain(x);
        Check.rules(x, "page 99;");
        Check.put(x, " ".repeat(1600));
        return x;
    }

    private static void tellAgain(PoetsBook x) {
        Check.holds("choose(), withdraw() and again() tell",
                x.choose() > 0 && x.chosen() > 0 && x.withdraw(1) >= 0 && x.again(7, 101) > 0 && x.ask() > 0);
    }

    /** What every call tells, but for the tape's length and the fault. */
    private static List<Integer> told(PoetsBook x) {
        List<Integer> all = new ArrayList<>();
        for (int what = 0; what < 20; what++) {
            all.add(what == 4 ? 0 : x.count(what));
            all.add(x.rule(what));
            all.add(x.printed(what));
            all.add(x.comes(what));
            all.add(x.share(what));
            all.add(x.index(what));
            all.add(x.lacking(what));
            for (int i = 0; i < 5; i++) {
                all.add(x.about(what, i));
                all.add(x.place(what, i));
            }
        }
        for (int p = 0; p < 41; p++) {
            all.add(x.leaveOn(p, 29999));
            all.add(x.leaveOn(p, 30));
            all.add(x.from(p, 2));
            for (int i = 0; i < 6; i++) {
                all.add(x.may(p, i, 1000, 29999));
                all.add(x.may(p, i, 95, 32));
                all.add(x.text(p, i / 2, 3 + i % 2));
                all.add(x.text(p, i / 2, i % 2));
                all.add(x.beside(p, i / 2, i % 2));
                all.add(x.breakAt(p, i / 2, i % 2));
            }
        }
        for (int k = 0; k < 81; k++) {
            for (int what = 0; what < 9; what++) {
                all.add(x.left(k, what));
            }
        }
        all.add(x.chosen());
        all.add(x.ask());
        all.add(x.worth(0));
        all.add(x.worth(7));
        return all;
    }

    private static void refused(String call, PoetsBook x, IntSupplier answer, int want) {
        List<Integer> ahead = told(x);
        Check.due(call, answer.getAsInt(), want);
        Check.holds(call + " leaves everything as it was", told(x).equals(ahead));
    }

    /** Refused without a look at the tape: it stays as well, and so does the fault. */
    private static void refusedOutright(String call, PoetsBook x, IntSupplier answer, int want) {
        int tape = x.count(4);
        int kind = x.fault(0);
        int place = x.fault(1);
        refused(call, x, answer, want);
        Check.due(call + " leaves the tape", x.count(4), tape);
        Check.due(call + " leaves the fault", x.fault(0), kind);
        Check.due(call + " leaves the fault", x.fault(1), place);
    }

    private static void refusedByNumbers(PoetsBook x) {
        int[] wrong = {-1, MIN, MAX, 30000};
        for (int n : wrong) {
            refusedOutright("3: end " + n, x, () -> x.end(n), PoetsBook.NONE);
            refusedOutright("4: pass " + n, x, () -> x.pass(n), PoetsBook.RANGE);
            refusedOutright("8: poet " + n, x, () -> x.poem(n, 0, 0, 0), PoetsBook.RANGE);
            refusedOutright("8: year " + n, x, () -> x.poem(0, n, 0, 0), PoetsBook.RANGE);
            refusedOutright("8: holder " + n, x, () -> x.poem(0, 0, n, 0), PoetsBook.RANGE);
            refusedOutright("8: worth " + n, x, () -> x.poem(0, 0, 0, n), PoetsBook.RANGE);
            refusedOutright("9: poem " + n, x, () -> x.translated(n, 9, 9), PoetsBook.RANGE);
            refusedOutright("9: poet " + n, x, () -> x.translated(0, n, 9), PoetsBook.RANGE);
            refusedOutright("9: hundredths " + n, x, () -> x.translated(0, 9, n), PoetsBook.RANGE);
            refusedOutright("17: leave " + n, x, () -> x.gone(n, 9), PoetsBook.RANGE);
            refusedOutright("17: day " + n, x, () -> x.gone(0, n), PoetsBook.RANGE);
            refusedOutright("18: poet " + n, x, () -> x.dead(n, 9), PoetsBook.RANGE);
            refusedOutright("18: day " + n, x, () -> x.dead(0, n), PoetsBook.RANGE);
            refusedOutright("21: lands " + n, x, () -> x.book(n, 9), PoetsBook.RANGE);
            refusedOutright("21: day " + n, x, () -> x.book(9, n), PoetsBook.RANGE);
            refusedOutright("22: " + n, x, () -> x.candidate(n), PoetsBook.RANGE);
            refusedOutright("26: " + n, x, () -> x.worth(n), PoetsBook.RANGE);
            refusedOutright("27: " + n, x, () -> x.order(n), PoetsBook.RANGE);
            refusedOutright("32: " + n, x, () -> x.withdraw(n), PoetsBook.RANGE);
            refusedOutright("36: lands " + n, x, () -> x.again(n, 9), PoetsBook.RANGE);
            refusedOutright("36: day " + n, x, () -> x.again(9, n), PoetsBook.RANGE);
        }
        refusedOutright("34: -1", x, () -> x.royalty(-1), PoetsBook.RANGE);
        refusedOutright("34: 10000000", x, () -> x.royalty(10000000), PoetsBook.RANGE);
        refusedOutright("4: pass 0", x, () -> x.pass(0), PoetsBook.RANGE);
        refusedOutright("27: none", x, () -> x.order(0), PoetsBook.RANGE);
        refusedOutright("9: it has one", x, () -> x.translated(3, 8, 9), PoetsBook.STATE);
        refusedOutright("17: told so", x, () -> x.gone(7, 9), PoetsBook.STATE);
        refusedOutright("22: it is one", x, () -> x.candidate(7), PoetsBook.STATE);
    }

    private static void refusedTexts(PoetsBook x) {
        x.end(0);
        String[] faulty = {"page 7;title 0;free 0 0;zz", "page 99;", "page 7;page 7;", "sum 5"};
        for (String text : faulty) {
            refused("5: " + text, x, () -> Check.rules(x, text), PoetsBook.NONE);
        }
        String[] editions = {"", "a;b;", "a+b", "a b c d e f g h i", "a;".repeat(30) + "a"};
        for (String text : editions) {
            refused("10: " + text, x, () -> Check.edition(x, 0, text), PoetsBook.NONE);
            refused("10: no poem", x, () -> Check.edition(x, 8, text), PoetsBook.RANGE);
        }
        String[] leaves = {"zz", "lands 2;until 30000;", "lands 2;lands 2;", "lands 2 2;", "credit a b c d e f g;"};
        for (String text : leaves) {
            refused("15: " + text, x, () -> Check.leave(x, 0, text), PoetsBook.NONE);
            refused("15: no poem", x, () -> Check.leave(x, 8, text), PoetsBook.RANGE);
        }
    }

    private static void refusedWhenFull(PoetsBook x) {
        refusedOutright("2: full", x, () -> x.feed(MAX, MAX, MAX, MAX, MAX), PoetsBook.FULL);
        refusedOutright("8: full", x, () -> x.poem(0, 0, 0, 0), PoetsBook.FULL);
        refusedOutright("18: full", x, () -> x.dead(0, 0), PoetsBook.FULL);
        refusedOutright("22: full", x, () -> x.candidate(39), PoetsBook.FULL);
        x.end(0);
        Check.due("10: the third", Check.edition(x, 2, "a"), PoetsBook.FULL);
        refused("10: full", x, () -> Check.edition(x, 2, "b;c"), PoetsBook.FULL);
        refused("15: full", x, () -> Check.leave(x, 0, "lands 5;"), PoetsBook.FULL);
    }

    private static void refusedRows(PoetsBook x) {
        x.end(0);
        String[] none = {"", "AA", "I", "A A", "ABCDEFGHABCDEFGH"};
        for (String text : none) {
            refused("28: " + text, x, () -> Check.lay(x, text), PoetsBook.NONE);
        }
        // Candidates 7 and 2 are of poet 0; 0, of which the leave is gone from day 90, is allowed still.
        refused("28: two of one poet", x, () -> Check.lay(x, "HC"), PoetsBook.NONE);
        refusedOutright("27: two of one poet", x, () -> x.order(1 << 7 | 1 << 2), PoetsBook.NONE);
        x.book(3, 90);
        refused("28: one isn't allowed", x, () -> Check.lay(x, "A"), PoetsBook.STATE);
        refusedOutright("27: one isn't allowed", x, () -> x.order(3), PoetsBook.STATE);
    }

    private static void refusedByState(PoetsBook x) {
        x.book(3, 90);
        refusedOutright("32: another one isn't allowed", x, () -> x.withdraw(1), PoetsBook.STATE);
        refusedOutright("34: one isn't allowed", x, () -> x.royalty(9), PoetsBook.STATE);
        refusedOutright("29: one isn't allowed", x, () -> x.place(0, 1), PoetsBook.NONE);
        refusedOutright("30: one isn't allowed", x, () -> x.printed(1), PoetsBook.NONE);
        PoetsBook y = rich();
        y.end(0);
        Check.holds("lay() tells", Check.lay(y, "HGC") >= 0);
        Check.holds("withdraw() and again() tell", y.withdraw(0) >= 0 && y.again(4, 0) > 0);
        // Poet 0 stands on both sides, and nobody else may come.
        for (int k = 0; k < 7; k++) {
            if (k != 0 && k != 1 && k != 5) {
                y.gone(k, 0);
            }
        }
        Check.leave(y, 7, "");
        Check.leave(y, 4, "");
        refusedOutright("32: no way", y, () -> y.withdraw(1), PoetsBook.NONE);
    }

    private static void refusedChoice(PoetsBook x) {
        x.end(0);
        Check.rules(x, "front 9;sheets 1;sheet 8;");
        refusedOutright("24: front alone is too much", x, x::choose, PoetsBook.NONE);
    }
}
