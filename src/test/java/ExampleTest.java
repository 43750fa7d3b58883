import java.io.IOException;
import java.nio.charset.StandardCharsets;
import java.nio.file.Files;
import java.nio.file.Path;
import java.util.ArrayList;
import java.util.List;

/** README.md's example as a program: its code must be the code here, its answers those that come. */
final class ExampleTest {
    private static final String CODE_BEGINS = "```java";
    private static final String CODE_ENDS = "```";
    private static final List<Integer> TOLD = new ArrayList<>();

    private ExampleTest() {
    }

    public static void main(String[] args) throws IOException {
        PoetsBook book = rulesAndPoems();
        leaves(book);
        choiceAndOrder(book);
        proof(book);
        secondPrinting(book);
        compareWithReadme();
        Check.finish();
    }

    static void put(PoetsBook book, String text) {
        int had = book.count(4);
        for (int i = 0; i < text.length(); i += 20) {
            int[] five = new int[5];
            for (int k = 0; k < 20; k++) {
                int sign = i + k < text.length() ? text.charAt(i + k) : 0;
                five[k / 4] = five[k / 4] << 8 | sign;
            }
            book.feed(five[0], five[1], five[2], five[3], five[4]);
        }
        book.end(had + text.length());
    }

    private static PoetsBook rulesAndPoems() {
        PoetsBook book = new PoetsBook();
        put(book, "page 8; sheet 4; front 2; sum 500; free 0 50;");
        tell(book.rules());                   // 5 clauses
        tell(book.poem(1, 1890, 2, 50));      // 0: the number of a poem of poet 1, of 1890, held by 2
        put(book, "a rose ; is red + / a thorn ; is not");
        tell(book.edition(0));                // 0: its first edition
        put(book, "a rose ; was red / a thorn ; is not");
        tell(book.edition(0));                // 1: its second
        tell(book.beside(0, 0, 1));           // 1 word differs
        tell(book.poem(3, 1921, 4, 70));      // 1
        put(book, "one ; two ; three ; four ; five ; six ; seven");
        tell(book.edition(1));                // 0
        tell(book.text(1, 0, 3));             // 2 pages, for the first has a title of 2 lines
        tell(book.breakAt(1, 0, 0));          // 4: the first page ends behind the fifth line
        tell(book.poem(5, 1925, 6, 20));      // 2
        put(book, "night ; falls");
        tell(book.edition(2));                // 0
        put(book, "night ; ;");
        tell(book.edition(2));                // -1: NONE, a fault
        tell(book.fault(0));                  // 1: SYNTAX
        tell(book.fault(1));                  // 8: at this byte
        return book;
    }

    private static void leaves(PoetsBook book) {
        put(book, "lands 0 1; fee 30 line; apart 5; credit by leave of the heirs;");
        tell(book.leave(1));                  // 0: a leave for poem 1
        put(book, "lands 0; until 20000; fee 40 all;");
        tell(book.leave(2));                  // 1
        tell(book.dead(1, 100));              // 1 death was told
        tell(book.may(0, 0, 18350, 0));       // 2: free in land 0, 50 years behind day 100
        tell(book.may(0, 0, 18349, 0));       // 0: not yet
        tell(book.may(1, 1, 18350, 0));       // 1: by its leave
    }

    private static void choiceAndOrder(PoetsBook book) {
        tell(book.book(1, 18350));            // 1: the book in land 0 on this day
        tell(book.candidate(0));              // 0
        tell(book.candidate(1));              // 1
        tell(book.candidate(2));              // 2
        tell(book.about(1, 4));               // 210 pence for its seven lines
        tell(book.choose());                  // 140: the worth of the best choice
        tell(book.chosen());                  // 7: candidates 0, 1 and 2, as bits
        tell(book.order(book.chosen()));      // 31 years back: 1 and 2 must stand apart
        tell(book.place(0, 0));               // 1: this candidate comes first
        tell(book.place(1, 1));               // 5: the next begins on this page
        tell(book.printed(1));                // 6 pages
        tell(book.printed(2));                // 2 sheets
        tell(book.index(0));                  // 1: "a rose" is first of the first lines
    }

    private static void proof(PoetsBook book) {
        put(book, "BA");
        tell(book.lay());                     // 31: the row is candidates 1 and 0
        tell(book.withdraw(0));               // 0 are moved
        tell(book.comes(0));                  // 1 comes instead
        tell(book.comes(1));                  // 2: this candidate
        tell(book.comes(3));                  // 1 empty page
        tell(book.royalty(1000));             // 1: parted by seven lines and four
        tell(book.share(3));                  // 636
        tell(book.share(1));                  // 364
    }

    private static void secondPrinting(PoetsBook book) {
        tell(book.gone(0, 19000));            // 1: the leave is gone from this day on
        tell(book.again(3, 19500));           // 2 may not in lands 0 and 1
        tell(book.lacking(0));                // 3: candidate 1 in both lands, as bits
        tell(book.lacking(1));                // 2: candidate 0 in land 1, where its poet isn't free
        tell(book.ask());                     // 20: holders 2 and 4, as bits
    }

    private static void tell(int answer) {
        TOLD.add(answer);
    }

    /** Each line of README's code stands here too, in the same order; its remark begins with the answer. */
    private static void compareWithReadme() throws IOException {
        List<String> own = Files.readAllLines(Path.of("src/test/java/ExampleTest.java"), StandardCharsets.UTF_8);
        int at = 0;
        int calls = 0;
        for (String line : codeOf(Files.readAllLines(Path.of("README.md"), StandardCharsets.UTF_8))) {
            int found = at;
            while (found < own.size() && !own.get(found).strip().equals(line)) {
                found++;
            }
            Check.holds("README.md's line stands in ExampleTest in its order: " + line, found < own.size());
            at = found < own.size() ? found + 1 : at;
            if (line.startsWith("tell(")) {
                Check.holds("README.md tells no more calls than run", calls < TOLD.size());
                if (calls < TOLD.size()) {
                    Check.due(line, TOLD.get(calls), answerIn(line));
                }
                calls++;
            }
        }
        Check.due("calls that README.md tells", calls, TOLD.size());
    }

    private static List<String> codeOf(List<String> text) {
        List<String> code = new ArrayList<>();
        boolean isCode = false;
        for (String line : text) {
            if (line.equals(CODE_BEGINS)) {
                isCode = true;
            } else if (line.equals(CODE_ENDS)) {
                isCode = false;
            } else if (isCode && !line.isBlank()) {
                code.add(line.strip());
            }
        }
        return code;
    }

    private static int answerIn(String line) {
        String remark = line.substring(line.indexOf("// ") + 3);
        return Integer.parseInt(remark.split("[ :]")[0]);
    }
}
