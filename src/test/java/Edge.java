import java.util.HashSet;
import java.util.Set;

/** A sentence of the document that names an edge, and the answers that are due there. */
final class Edge {
    private static final Set<String> SECTIONS = new HashSet<>();
    private static String name = "";

    private Edge() {
    }

    /** The answers from here on are due by these words of a term or a promise. */
    static void of(String section, String words) {
        name = section + ", \"" + words + "\": ";
        SECTIONS.add(section);
        Check.holds(name + "the document says so", Doc.says(section, words));
    }

    static void of(int promise, String words) {
        of(String.valueOf(promise), words);
    }

    static void due(String call, int got, int want) {
        Check.due(name + call, got, want);
    }

    /** Answers of one call for what 0, 1, .. or i 0, 1, .. in their order. */
    static void dues(String call, int[] got, int... want) {
        due(call + ": how many", got.length, want.length);
        for (int i = 0; i < got.length && i < want.length; i++) {
            due(call + " " + i, got[i], want[i]);
        }
    }

    /** Ends a test in which each promise of a row of them must have had a sentence. */
    static void finish(int firstPromise, int lastPromise) {
        for (int n = firstPromise; n <= lastPromise; n++) {
            Check.holds("promise " + n + " has a sentence", SECTIONS.contains(String.valueOf(n)));
        }
        Check.finish();
    }
}
