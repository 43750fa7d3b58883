import java.lang.reflect.Method;
import java.lang.reflect.Modifier;
import java.util.ArrayList;
import java.util.Arrays;
import java.util.Comparator;
import java.util.List;
import java.util.Random;

/** Runs of calls from fixed seeds: PoetsBook must answer as Model does. */
public final class RandomRunsTest {
    private static final int RUNS = 1500;
    private static final String[] WORDS = {"a", "b", "c", "ab", "aa", "ba", "z", "page", "line", "abcdefghijkl"};

    private static final List<Method> FACE = face();

    private final Random random;
    private final PoetsBook book = new PoetsBook();
    private final Model model = new Model();
    private final List<Integer> poetOf = new ArrayList<>();
    private final int seed;
    private int calls = 0;
    private String lastEdition = "a b;c";

    private RandomRunsTest(int seed) {
        this.seed = seed;
        random = new Random(seed);
    }

    public static void main(String[] args) {
        for (int seed = 0; seed < RUNS && Check.wrongCount() < 20; seed++) {
            new RandomRunsTest(seed).run();
        }
        Check.finish();
    }

    private void due(String call, int got, int want) {
        calls++;
        Check.due("seed " + seed + ", call " + calls + ": " + call, got, want);
    }

    private boolean oneIn(int n) {
        return random.nextInt(n) == 0;
    }

    /** Mostly a number below n, sometimes one just outside. */
    private int below(int n) {
        return oneIn(60) ? (oneIn(2) ? -1 : n) : random.nextInt(Math.max(1, n));
    }

    private void run() {
        int poets = 2 + random.nextInt(9);
        int span = 1 + random.nextInt(60);
        rules(ruleText());
        int poems = oneIn(8) ? random.nextInt(3) : 6 + random.nextInt(12);
        for (int p = 0; p < poems; p++) {
            poem(poets);
            int latest = Math.max(0, model.count(1) - 1);
            edition(latest);
            leave(latest);
            while (oneIn(3)) {
                edition(latest);
            }
            if (!oneIn(6)) {
                candidate(model.count(1));
            }
        }
        while (!oneIn(3)) {
            dead(poets, span);
        }
        int most = calls + 600;
        while (calls < most && Check.wrongCount() < 20) {
            step(poets, span);
        }
    }

    private void poem(int poets) {
        int poet = oneIn(40) ? 20 : random.nextInt(poets);
        int year = oneIn(40) ? -1 : 1900 + random.nextInt(12);
        int holder = below(20);
        int worth = oneIn(3) ? random.nextInt(3) : below(100);
        int told = model.poem(poet, year, holder, worth);
        due("poem(" + poet + ", " + year + ", " + holder + ", " + worth + ")",
                book.poem(poet, year, holder, worth), told);
        if (told >= 0) {
            poetOf.add(poet);
        }
    }

    private void put(String text) {
        StringBuilder rest = new StringBuilder(text);
        while (rest.length() % 20 != 0) {
            rest.append((char) 0);
        }
        for (int i = 0; i < rest.length(); i += 20) {
            int[] v = new int[5];
            for (int k = 0; k < 20; k++) {
                v[k / 4] = v[k / 4] << 8 | rest.charAt(i + k);
            }
            due("feed of " + text, book.feed(v[0], v[1], v[2], v[3], v[4]), model.feed(v[0], v[1], v[2], v[3], v[4]));
        }
        int n = oneIn(200) ? text.length() + random.nextInt(50) : text.length();
        due("end(" + n + ")", book.end(n), model.end(n));
    }

    /** A text, now and then with a sign changed, left out or put in. */
    private String spoiled(String text) {
        if (!oneIn(12) || text.isEmpty()) {
            return text;
        }
        StringBuilder changed = new StringBuilder(text);
        String signs = " \n;;/+abz0159A.\t\u00e9";
        int at = random.nextInt(text.length());
        char sign = signs.charAt(random.nextInt(signs.length()));
        switch (random.nextInt(4)) {
            case 0: changed.setCharAt(at, sign); break;
            case 1: changed.deleteCharAt(at); break;
            case 2: changed.insert(at, sign); break;
            default: changed.setLength(at); break;
        }
        return changed.toString();
    }

    private void faults(String text) {
        due("fault(0) of " + text, book.fault(0), model.fault(0));
        due("fault(1) of " + text, book.fault(1), model.fault(1));
    }

    private String number(int least, int greatest) {
        int n = oneIn(80) ? greatest + 1 : oneIn(80) ? Math.max(0, least - 1)
                : least + random.nextInt(greatest - least + 1);
        return (oneIn(10) ? "0" : "") + n;
    }

    private String ruleText() {
        StringBuilder text = new StringBuilder();
        String[] words = {"page", "sheet", "title", "front", "sheets", "sum", "most", "free"};
        int[][] bounds = {{6, 16}, {2, 6}, {0, 4}, {0, 6}, {1, 8}, {0, 200}, {1, 3}};
        int shift = random.nextInt(8);
        for (int k = 0; k < 8; k++) {
            int i = (k + shift) % 8;
            if (oneIn(4)) {
                continue;
            }
            if (i == 7) {
                for (int land = 0; land < 6; land++) {
                    if (oneIn(2)) {
                        text.append("free ").append(oneIn(40) ? 0 : land).append(' ');
                        text.append(oneIn(3) ? number(0, 99) : "0").append(";");
                    }
                }
            } else {
                int[] b = bounds[i];
                text.append(words[i]).append(oneIn(3) ? "" : " ");
                text.append(oneIn(6) ? number(b[0], i == 5 ? 99999 : b[1] + 3) : number(b[0], b[1]));
                text.append(oneIn(5) ? " ;\n" : ";");
            }
        }
        return spoiled(text.toString());
    }

    private void rules(String text) {
        put(text);
        due("rules of " + text, book.rules(), model.rules());
        faults(text);
        for (int what = -1; what < 17; what++) {
            if (oneIn(6)) {
                due("rule(" + what + ")", book.rule(what), model.rule(what));
            }
        }
    }

    private String editionText() {
        StringBuilder text = new StringBuilder();
        int lines = 1 + random.nextInt(oneIn(4) ? 31 : 14);
        int words = oneIn(8) ? 8 : 3;
        int stanza = 2 + random.nextInt(6);
        for (int i = 0; i < lines; i++) {
            if (i > 0) {
                text.append(oneIn(stanza) ? "/" : ";").append(oneIn(5) ? "\n" : "");
            }
            int n = 1 + random.nextInt(words) + (oneIn(200) ? 2 : 0);
            for (int w = 0; w < n; w++) {
                text.append(w == 0 ? "" : " ").append(WORDS[random.nextInt(oneIn(5) ? WORDS.length : 3)]);
            }
            text.append(oneIn(8) ? "+" : "");
        }
        return spoiled(text.toString());
    }

    /** A text of which some words are others, as editions are. */
    private String nearly(String text) {
        String changed = text;
        for (int n = random.nextInt(4); n >= 0; n--) {
            String word = WORDS[random.nextInt(4)];
            changed = changed.replaceFirst("\\b" + word + "\\b", WORDS[random.nextInt(4)]);
        }
        return changed + (oneIn(3) ? ";b" : "");
    }

    private void edition(int p) {
        String text = oneIn(3) ? nearly(lastEdition) : editionText();
        lastEdition = text;
        put(text);
        due("edition(" + p + ") of " + text, book.edition(p), model.edition(p));
        faults(text);
    }

    private String leaveText() {
        StringBuilder text = new StringBuilder();
        int shift = random.nextInt(6);
        for (int k = 0; k < 6; k++) {
            int clause = (k + shift) % 6;
            if (clause == 0 ? oneIn(20) : oneIn(2)) {
                continue;
            }
            switch (clause) {
                case 0: text.append("lands").append(numbers(6, 2)); break;
                case 1: text.append("until ").append(oneIn(4) ? number(0, 90) : number(29990, 29999)); break;
                case 2:
                    text.append("fee ").append(number(0, oneIn(5) ? 9999 : 20));
                    text.append(oneIn(3) ? " line" : oneIn(2) ? " page" : "all");
                    break;
                case 3: text.append("apart").append(numbers(oneIn(20) ? 20 : 10, oneIn(4) ? 3 : 10)); break;
                case 4: text.append("edition ").append(number(0, oneIn(5) ? 2 : 0)); break;
                default:
                    text.append("credit");
                    for (int w = random.nextInt(oneIn(20) ? 8 : 5); w >= 0; w--) {
                        text.append(' ').append(WORDS[random.nextInt(WORDS.length)]);
                    }
                    break;
            }
            text.append(oneIn(5) ? " ; " : ";");
        }
        return spoiled(text.toString());
    }

    private String numbers(int n, int rare) {
        StringBuilder text = new StringBuilder();
        for (int i = 0; i < n; i++) {
            if (rare == 2 ? !oneIn(8) : oneIn(rare)) {
                text.append(' ').append(oneIn(60) ? random.nextInt(n + 1) : i);
            }
        }
        return text.length() == 0 ? " 0" : text.toString();
    }

    private void leave(int p) {
        String text = leaveText();
        put(text);
        due("leave(" + p + ") of " + text, book.leave(p), model.leave(p));
        faults(text);
    }

    private void step(int poets, int span) {
        int poems = model.count(1);
        int cs = model.count(3);
        switch (random.nextInt(27)) {
            case 0: change(poets, span, poems); break;
            case 1: leaves(poems, span); break;
            case 2: case 3: candidate(poems); break;
            case 4: book(span); break;
            case 5: case 6: texts(poems); break;
            case 7: may(poems, span); break;
            case 8: case 9: abouts(cs); break;
            case 10: case 11: choose(cs); break;
            case 12: case 13: case 14: order(cs); break;
            case 15: case 16: lay(cs); break;
            case 17: case 18: printed(); break;
            case 19: case 20: case 21: withdraw(); break;
            case 22: royalty(); break;
            case 23: again(span); break;
            case 24: counts(); break;
            case 25: wild(); break;
            default: index(); break;
        }
    }

    /** Any call of the face with any arguments. */
    private void wild() {
        Method method = FACE.get(random.nextInt(FACE.size()));
        Object[] arguments = new Object[method.getParameterCount()];
        int[] edges = {Integer.MIN_VALUE, Integer.MAX_VALUE, -1, 0, 1, 2, 20, 40, 64, 1600, 30000, 1 << 14};
        for (int i = 0; i < arguments.length; i++) {
            arguments[i] = oneIn(6) ? random.nextInt() : edges[random.nextInt(edges.length)];
        }
        due(method.getName() + Arrays.toString(arguments), answer(book, method, arguments),
                answer(model, method, arguments));
    }

    private static int answer(Object of, Method method, Object[] arguments) {
        try {
            Method own = of.getClass().getDeclaredMethod(method.getName(), method.getParameterTypes());
            return (Integer) own.invoke(of, arguments);
        } catch (ReflectiveOperationException e) {
            throw new IllegalStateException(method.getName() + Arrays.toString(arguments), e);
        }
    }

    private static List<Method> face() {
        List<Method> face = new ArrayList<>();
        for (Method method : PoetsBook.class.getDeclaredMethods()) {
            if (Modifier.isPublic(method.getModifiers())) {
                face.add(method);
            }
        }
        // The machine tells methods in any order; a seed must tell the same run everywhere.
        face.sort(Comparator.comparing(Method::getName));
        return face;
    }

    private void change(int poets, int span, int poems) {
        int p = below(poems);
        int what = random.nextInt(8);
        if (what == 0) {
            rules(ruleText());
        } else if (what == 1) {
            edition(p);
        } else if (what == 2) {
            leave(p);
        } else if (what == 3) {
            int n = 1 + random.nextInt(oneIn(30) ? 12000 : 4);
            due("pass(" + n + ")", book.pass(n), model.pass(n));
        } else if (what == 4) {
            int poet = below(poets);
            int hundredths = below(100);
            due("translated(" + p + ", " + poet + ", " + hundredths + ")",
                    book.translated(p, poet, hundredths), model.translated(p, poet, hundredths));
        } else if (what == 5) {
            int k = below(model.count(2));
            int day = oneIn(3) ? 29990 : random.nextInt(span);
            due("gone(" + k + ", " + day + ")", book.gone(k, day), model.gone(k, day));
        } else if (what == 6) {
            dead(poets, span);
        } else {
            poem(poets);
            edition(poems);
            leave(poems);
        }
    }

    private void dead(int poets, int span) {
        int poet = oneIn(50) ? 20 : random.nextInt(poets);
        int day = below(span);
        due("dead(" + poet + ", " + day + ")", book.dead(poet, day), model.dead(poet, day));
    }

    private void leaves(int poems, int span) {
        int k = below(model.count(2));
        int what = below(9);
        due("left(" + k + ", " + what + ")", book.left(k, what), model.left(k, what));
        int p = below(poems);
        int known = below(span);
        due("leaveOn(" + p + ", " + known + ")", book.leaveOn(p, known), model.leaveOn(p, known));
    }

    private void candidate(int poems) {
        int p = below(poems);
        due("candidate(" + p + ")", book.candidate(p), model.candidate(p));
    }

    private void book(int span) {
        int lands = oneIn(3) ? below(64) : 1 << random.nextInt(6) | 1 << random.nextInt(6);
        int day = oneIn(40) ? 30000 : random.nextInt(oneIn(20) ? 30000 : span);
        due("book(" + lands + ", " + day + ")", book.book(lands, day), model.book(lands, day));
    }

    private void texts(int poems) {
        int p = below(poems);
        int e = random.nextInt(3);
        int f = below(2);
        int i = below(3);
        for (int what = -1; what < 6; what++) {
            due("text(" + p + ", " + e + ", " + what + ")", book.text(p, e, what), model.text(p, e, what));
        }
        due("breakAt(" + p + ", " + e + ", " + i + ")", book.breakAt(p, e, i), model.breakAt(p, e, i));
        due("beside(" + p + ", " + e + ", " + f + ")", book.beside(p, e, f), model.beside(p, e, f));
        due("from(" + p + ", " + e + ")", book.from(p, e), model.from(p, e));
    }

    private void may(int poems, int span) {
        int p = below(poems);
        int land = below(6);
        int day = oneIn(4) ? random.nextInt(30000) : below(span);
        int known = oneIn(40) ? 30000 : random.nextInt(span);
        due("may(" + p + ", " + land + ", " + day + ", " + known + ")",
                book.may(p, land, day, known), model.may(p, land, day, known));
    }

    private void abouts(int cs) {
        int c = below(cs);
        for (int what = 0; what < 5; what++) {
            due("about(" + c + ", " + what + ")", book.about(c, what), model.about(c, what));
        }
    }

    private void choose(int cs) {
        due("choose()", book.choose(), model.choose());
        due("chosen()", book.chosen(), model.chosen());
        int set = random.nextInt(1 << cs) & (oneIn(2) ? -1 : random.nextInt(1 << cs));
        set = oneIn(30) ? below(1 << cs) : set;
        due("worth(" + set + ")", book.worth(set), model.worth(set));
    }

    private int allowedSet(int cs) {
        int set = 0;
        for (int c = 0; c < cs; c++) {
            set |= model.about(c, 1) == 1 ? 1 << c : 0;
        }
        return set;
    }

    private void order(int cs) {
        int set = allowedSet(cs) & random.nextInt(1 << 14);
        if (oneIn(2)) {
            set |= allowedSet(cs) & random.nextInt(1 << 14);
        }
        if (oneIn(20)) {
            set = below(1 << cs);
        }
        due("order(" + set + ")", book.order(set), model.order(set));
        int i = random.nextInt(10);
        due("place(" + i + ", 0)", book.place(i, 0), model.place(i, 0));
    }

    private void lay(int cs) {
        int set = oneIn(15) ? (1 << cs) - 1 : allowedSet(cs);
        StringBuilder text = new StringBuilder();
        int n = random.nextInt(oneIn(3) ? 14 : 6) + 1;
        for (int tries = 0; tries < 60 && text.length() < n; tries++) {
            int c = random.nextInt(Math.max(1, cs));
            boolean isThere = text.indexOf(String.valueOf((char) (65 + c))) >= 0;
            boolean stands = text.length() == 0 || oneIn(40) || isThere
                    || !samePoet(text.charAt(text.length() - 1) - 65, c);
            if ((set >> c & 1) == 1 && (!isThere || oneIn(150)) && stands) {
                text.append((char) (65 + c));
            }
        }
        if (oneIn(30)) {
            text.append((char) random.nextInt(256));
        }
        put(text.toString());
        due("lay() of " + text, book.lay(), model.lay());
        if (oneIn(4)) {
            counts();
        }
    }

    private boolean samePoet(int c, int d) {
        int p = model.about(c, 0);
        int q = model.about(d, 0);
        boolean areKnown = p >= 0 && q >= 0 && Math.max(p, q) < poetOf.size();
        return areKnown && poetOf.get(p).equals(poetOf.get(q));
    }

    private void printed() {
        for (int what = 0; what < 4; what++) {
            due("printed(" + what + ")", book.printed(what), model.printed(what));
            int i = random.nextInt(6);
            due("place(" + i + ", " + what + ")", book.place(i, what), model.place(i, what));
        }
    }

    private void index() {
        for (int i = 0; i < 5; i++) {
            due("index(" + i + ")", book.index(i), model.index(i));
        }
    }

    private void withdraw() {
        int i = below(model.printed(0));
        due("withdraw(" + i + ")", book.withdraw(i), model.withdraw(i));
        for (int what = -1; what < 5; what++) {
            due("comes(" + what + ")", book.comes(what), model.comes(what));
        }
    }

    private void royalty() {
        int pence = oneIn(30) ? below(10000000) : random.nextInt(300);
        due("royalty(" + pence + ")", book.royalty(pence), model.royalty(pence));
        for (int poet = 0; poet < 6; poet++) {
            due("share(" + poet + ")", book.share(poet), model.share(poet));
        }
    }

    private void again(int span) {
        int lands = oneIn(3) ? below(64) : 1 << random.nextInt(6);
        int day = below(span);
        due("again(" + lands + ", " + day + ")", book.again(lands, day), model.again(lands, day));
        for (int i = 0; i < 4; i++) {
            due("lacking(" + i + ")", book.lacking(i), model.lacking(i));
        }
        due("ask()", book.ask(), model.ask());
    }

    private void counts() {
        for (int what = -1; what < 8; what++) {
            due("count(" + what + ")", book.count(what), model.count(what));
        }
        due("comes(0)", book.comes(0), model.comes(0));
        due("lacking(0)", book.lacking(0), model.lacking(0));
        due("ask()", book.ask(), model.ask());
        due("chosen()", book.chosen(), model.chosen());
    }
}
