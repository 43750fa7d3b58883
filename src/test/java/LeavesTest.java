/** Promises 15 to 20: leaves, deaths, and what may be printed where and when. */
public final class LeavesTest {
    private LeavesTest() {
    }

    public static void main(String[] args) {
        leaves();
        faults();
        full();
        goneLeaves();
        deaths();
        free();
        granted();
        latest();
        ranges();
        Check.finish();
    }

    private static PoetsBook withPoems(int n) {
        PoetsBook x = new PoetsBook();
        for (int p = 0; p < n; p++) {
            x.poem(p % 20, 1900, p % 20, 1);
        }
        return x;
    }

    private static void told(PoetsBook x, int k, int... dues) {
        for (int what = 0; what < dues.length; what++) {
            Check.due("16: left(" + k + ", " + what + ")", x.left(k, what), dues[what]);
        }
    }

    private static void leaves() {
        PoetsBook x = withPoems(2);
        Check.due("15: poem 2", Check.leave(x, 2, ""), PoetsBook.RANGE);
        Check.due("15: poem -1", Check.leave(x, -1, ""), PoetsBook.RANGE);
        Check.due("15: nothing told", Check.leave(x, 1, " \n"), 0);
        told(x, 0, 1, 0, 29999, 0, 2, 0, -1, 0, 0);
        x.pass(7);
        Check.due("15: all told", Check.leave(x, 0, "credit a lands c until fee f;edition 2;apart 19 0;"
                + "fee 9999page;until 0;lands 5 0 3;"), 1);
        told(x, 1, 0, 41, 0, 9999, 1, 524289, 2, 6, 7);
        Check.due("15: by line", Check.leave(x, 0, "fee 1 line;until 29999;edition 0;credit lands;"), 2);
        told(x, 2, 0, 0, 29999, 1, 0, 0, 0, 1, 7);
        Check.due("15: in all", Check.leave(x, 0, "fee 3 all;lands 0 1 2 3 4 5;"
                + "apart 0 1 2 3 4 5 6 7 8 9 10 11 12 13 14 15 16 17 18 19;"), 3);
        told(x, 3, 0, 63, 29999, 3, 2, 1048575, -1, 0, 7);
        Check.due("16: what 9", x.left(0, 9), -9);
        Check.due("16: what -1", x.left(0, -1), -9);
        Check.due("16: leave 4", x.left(4, 0), -9);
        Check.due("16: leave -1", x.left(-1, 0), -9);
        Check.due("15: count(2)", x.count(2), 4);
    }

    private static void fault(String text, int kind, int place) {
        PoetsBook x = withPoems(1);
        Check.due("15: leave of " + text, Check.leave(x, 0, text), -1);
        Check.due("6: kind of " + text, x.fault(0), kind);
        Check.due("6: place of " + text, x.fault(1), place);
        Check.due("15: none came of " + text, x.count(2), 0);
    }

    private static void faults() {
        fault("land 1;", 1, 0);
        fault("lands;", 1, 5);
        fault("lands 1", 1, 7);
        fault("lands 1 a;", 1, 8);
        fault("lands 1,2;", 1, 7);
        fault("lands 6;", 2, 6);
        fault("lands 1 6;", 2, 8);
        fault("lands 1 2 1;", 3, 10);
        fault("lands 0 1 2 3 4 5 0;", 3, 18);
        fault("lands 0 1 2 3 4 5 6;", 2, 18);
        fault("lands 0 1 2 3 4 5 000001;", 1, 18);
        fault("lands 1;lands 6;", 3, 8);
        fault("until;", 1, 5);
        fault("until 30000;", 2, 6);
        fault("until 300000;", 1, 6);
        fault("until 1 2;", 1, 8);
        fault("until 1;until 1;", 3, 8);
        fault("fee all;", 1, 4);
        fault("fee 10000 all;", 2, 4);
        fault("fee 1;", 1, 5);
        fault("fee 1 lines;", 1, 6);
        fault("fee 1 all", 1, 9);
        fault("fee 1 all all;", 1, 10);
        fault("fee 1 all;fee", 3, 10);
        fault("apart 20;", 2, 6);
        fault("apart 3 03;", 3, 8);
        fault("apart ;", 1, 6);
        fault("apart 1;apart 2;", 3, 8);
        fault("edition 3;", 2, 8);
        fault("edition;", 1, 7);
        fault("edition 1;edition 1;", 3, 10);
        fault("credit;", 1, 6);
        fault("credit 1;", 1, 7);
        fault("credit a 1;", 1, 9);
        fault("credit a b c d e f g;", 4, 19);
        fault("credit a b c d e f 1;", 1, 19);
        fault("credit a b c d e f abcdefghijklm;", 1, 19);
        fault("credit a b c d e f", 1, 18);
        fault("credit a;credit a;", 3, 9);
        fault(";", 1, 0);
        fault("until 1;;", 1, 8);
    }

    private static void full() {
        PoetsBook x = withPoems(1);
        for (int k = 0; k < 80; k++) {
            Check.due("15: leave", x.leave(0), k);
        }
        Check.due("15: the 81st", x.leave(0), PoetsBook.FULL);
        Check.due("15: RANGE ahead of FULL", x.leave(1), PoetsBook.RANGE);
        Check.put(x, "zzz");
        Check.due("15: FULL ahead of a fault", x.leave(0), PoetsBook.FULL);
        Check.due("15: FULL empties the tape", x.count(4), 0);
        Check.due("15: count(2)", x.count(2), 80);
        for (int told = 1; told <= 60; told++) {
            Check.due("18: dead", x.dead(told % 20, told), told);
        }
        Check.due("18: the 61st", x.dead(0, 0), PoetsBook.FULL);
        Check.due("18: RANGE ahead of FULL", x.dead(-1, 0), PoetsBook.RANGE);
    }

    private static void goneLeaves() {
        PoetsBook x = withPoems(1);
        Check.due("17: no leave", x.gone(0, 0), PoetsBook.RANGE);
        Check.leave(x, 0, "lands 0;");
        x.pass(50);
        Check.due("17: leave -1", x.gone(-1, 0), PoetsBook.RANGE);
        Check.due("17: day -1", x.gone(0, -1), PoetsBook.RANGE);
        Check.due("17: day 30000", x.gone(0, 30000), PoetsBook.RANGE);
        Check.due("17: ", x.gone(0, 10), 1);
        Check.due("17: told so", x.gone(0, 10), PoetsBook.STATE);
        Check.due("17: RANGE ahead of STATE", x.gone(0, 30000), PoetsBook.RANGE);
        Check.due("19: ahead of that day", x.may(0, 0, 9, 50), 1);
        Check.due("19: from that day on", x.may(0, 0, 10, 50), 0);
        Check.due("19: known since", x.may(0, 0, 10, 49), 1);
        Check.due("20: it is still the leave", x.leaveOn(0, 50), 0);
        Check.leave(x, 0, "lands 1;");
        Check.due("19: another one isn't gone", x.may(0, 1, 10, 50), 1);
    }

    private static void deaths() {
        PoetsBook x = withPoems(1);
        Check.due("18: poet -1", x.dead(-1, 0), PoetsBook.RANGE);
        Check.due("18: poet 20", x.dead(20, 0), PoetsBook.RANGE);
        Check.due("18: day -1", x.dead(0, -1), PoetsBook.RANGE);
        Check.due("18: day 30000", x.dead(0, 30000), PoetsBook.RANGE);
        Check.due("18: first", x.dead(19, 29999), 1);
        Check.due("18: in all", x.dead(19, 0), 2);
    }

    private static void free() {
        PoetsBook x = withPoems(2);
        Check.rules(x, "free 1 1;free 2 0;");
        x.pass(5);
        x.dead(0, 100);
        x.pass(5);
        x.dead(0, 200);
        Check.due("19: not known", x.may(0, 2, 29999, 4), 0);
        Check.due("19: as told first", x.may(0, 2, 100, 5), 2);
        Check.due("19: as told first", x.may(0, 2, 99, 9), 0);
        Check.due("19: as told again", x.may(0, 2, 199, 10), 0);
        Check.due("19: as told again", x.may(0, 2, 200, 10), 2);
        Check.due("19: known on a later day", x.may(0, 2, 200, 29999), 2);
        Check.due("19: a year", x.may(0, 1, 564, 10), 0);
        Check.due("19: a year", x.may(0, 1, 565, 10), 2);
        Check.due("19: seventy years", x.may(0, 0, 25749, 10), 0);
        Check.due("19: seventy years", x.may(0, 0, 25750, 10), 2);
        Check.due("19: another poet", x.may(1, 2, 29999, 10), 0);
        x.translated(0, 7, 10);
        Check.due("19: the translator isn't dead", x.may(0, 2, 29999, 10), 0);
        x.dead(7, 300);
        Check.due("19: the later one counts", x.may(0, 2, 299, 10), 0);
        Check.due("19: the later one counts", x.may(0, 2, 300, 10), 2);
        x.dead(7, 0);
        Check.due("19: the poet's then", x.may(0, 2, 199, 10), 0);
        Check.due("19: the poet's then", x.may(0, 2, 200, 10), 2);
        x.translated(1, 7, 10);
        Check.due("19: a translator alone", x.may(1, 2, 29999, 10), 0);
    }

    private static void granted() {
        PoetsBook x = withPoems(1);
        Check.leave(x, 0, "lands 1 3;until 500;");
        int[] dues = {0, 1, 0, 1, 0, 0};
        for (int land = 0; land < 6; land++) {
            Check.due("19: land " + land, x.may(0, land, 500, 0), dues[land]);
            Check.due("19: too late, land " + land, x.may(0, land, 501, 0), 0);
        }
        Check.rules(x, "free 1 0;");
        x.dead(0, 10);
        Check.due("19: free ahead of leave", x.may(0, 1, 10, 0), 2);
        Check.due("19: by leave", x.may(0, 1, 9, 0), 1);
    }

    private static void latest() {
        PoetsBook x = withPoems(2);
        Check.due("20: none", x.leaveOn(0, 0), PoetsBook.NONE);
        x.pass(3);
        Check.leave(x, 0, "lands 0;");
        Check.leave(x, 1, "lands 0;");
        Check.leave(x, 0, "lands 1;");
        x.pass(3);
        Check.leave(x, 0, "lands 2;");
        Check.due("20: on 2", x.leaveOn(0, 2), PoetsBook.NONE);
        Check.due("20: on 3", x.leaveOn(0, 3), 2);
        Check.due("20: on 5", x.leaveOn(0, 5), 2);
        Check.due("20: on 6", x.leaveOn(0, 6), 3);
        Check.due("20: of 1", x.leaveOn(1, 6), 1);
        Check.due("19: the latest alone counts", x.may(0, 0, 6, 6), 0);
        Check.due("19: the latest alone counts", x.may(0, 1, 6, 5), 1);
        Check.due("19: none was known", x.may(0, 1, 6, 2), 0);
    }

    private static void ranges() {
        PoetsBook x = withPoems(1);
        Check.due("19: p -1", x.may(-1, 0, 0, 0), PoetsBook.RANGE);
        Check.due("19: p 1", x.may(1, 0, 0, 0), PoetsBook.RANGE);
        Check.due("19: land -1", x.may(0, -1, 0, 0), PoetsBook.RANGE);
        Check.due("19: land 6", x.may(0, 6, 0, 0), PoetsBook.RANGE);
        Check.due("19: day -1", x.may(0, 0, -1, 0), PoetsBook.RANGE);
        Check.due("19: day 30000", x.may(0, 0, 30000, 0), PoetsBook.RANGE);
        Check.due("19: known -1", x.may(0, 0, 0, -1), PoetsBook.RANGE);
        Check.due("19: known 30000", x.may(0, 0, 0, 30000), PoetsBook.RANGE);
        Check.due("20: p 1", x.leaveOn(1, 0), PoetsBook.RANGE);
        Check.due("20: p -1", x.leaveOn(-1, 0), PoetsBook.RANGE);
        Check.due("20: known -1", x.leaveOn(0, -1), PoetsBook.RANGE);
        Check.due("20: known 30000", x.leaveOn(0, 30000), PoetsBook.RANGE);
    }
}
