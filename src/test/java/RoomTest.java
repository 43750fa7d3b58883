import com.sun.management.ThreadMXBean;
import java.lang.management.ManagementFactory;
import java.util.function.IntSupplier;

/** How much room a run takes: answers make nothing, and what is kept stays small. */
public final class RoomTest {
    private static final ThreadMXBean THREADS = (ThreadMXBean) ManagementFactory.getThreadMXBean();
    private static final int CALLS = 512;
    // The machine itself makes a little now and then; one object a call would be more than this.
    private static final long NOTHING = 16L * CALLS - 1;
    // 7.3 million elements are all that a run may make; a single byte is the least of them.
    private static final long WHOLE_RUN = 7300000;

    private RoomTest() {
    }

    public static void main(String[] args) {
        PoetsBook x = full();
        makesNothing("choose", x::choose);
        makesNothing("worth", () -> x.worth(1023));
        makesNothing("order", () -> x.order(1023));
        makesNothing("withdraw", () -> x.withdraw(0));
        makesNothing("royalty", () -> x.royalty(9999999));
        makesNothing("again", () -> x.again(63, 29999));
        makesNothing("index", () -> x.index(9));
        makesNothing("place", () -> x.place(9, 1));
        makesNothing("printed", () -> x.printed(3));
        makesNothing("about", () -> x.about(13, 4));
        makesNothing("may", () -> x.may(39, 5, 29999, 29999));
        makesNothing("text", () -> x.text(0, 2, 4));
        makesNothing("beside", () -> x.beside(0, 1, 2));
        makesNothing("from", () -> x.from(0, 2));
        makesNothing("breakAt", () -> x.breakAt(0, 2, 0));
        makesNothing("rules", x::rules);
        makesNothing("lay", x::lay);
        makesNothing("feed and end", () -> x.feed(1, 2, 3, 4, 5) + x.end(0));
        makesNothing("edition", () -> x.edition(39));
        long ahead = THREADS.getCurrentThreadAllocatedBytes();
        int editions = dearestRun();
        long made = THREADS.getCurrentThreadAllocatedBytes() - ahead;
        Check.holds("the dearest run makes " + made + " bytes", made < WHOLE_RUN && editions > 0);
        Check.finish();
    }

    private static void makesNothing(String call, IntSupplier answer) {
        int sum = answer.getAsInt();
        long ahead = THREADS.getCurrentThreadAllocatedBytes();
        for (int n = 0; n < CALLS; n++) {
            sum += answer.getAsInt();
        }
        long made = THREADS.getCurrentThreadAllocatedBytes() - ahead;
        Check.holds(call + "() made " + made + " bytes, with " + sum, made <= NOTHING);
    }

    private static PoetsBook full() {
        PoetsBook x = new PoetsBook();
        for (int p = 0; p < 40; p++) {
            x.poem(p % 20, 2100 - p, p % 20, p);
            for (int e = 0; p < 14 && e < 3; e++) {
                Check.edition(x, p, "a b c d e f g h;".repeat(29) + "a b c");
            }
            Check.leave(x, p, "lands 0;");
            x.candidate(p);
        }
        x.order(1023);
        return x;
    }

    /** The calls that keep most: as many of the greatest editions as 512 calls can bring. */
    private static int dearestRun() {
        PoetsBook x = new PoetsBook();
        String text = "a b c d e f g h;".repeat(29) + "a b c d e f g h";
        int made = 0;
        int calls = 0;
        for (int p = 0; p < 40; p++) {
            x.poem(0, 0, 0, 0);
            for (int e = 0; e < 3 && calls < CALLS; e++) {
                calls += text.length() / 20 + 3;
                made += Check.edition(x, p, text) >= 0 ? 1 : 0;
            }
        }
        for (int k = 0; k < CALLS; k++) {
            x.leave(0);
        }
        return made;
    }
}
