import java.util.ArrayList;
import java.util.Arrays;
import java.util.Collections;
import java.util.Comparator;
import java.util.HashMap;
import java.util.HashSet;
import java.util.List;
import java.util.Map;
import java.util.Set;

/**
 * The document told a second time, as plainly as the Java library lets it be: every
 * choice, order and way is tried. It serves to compare random runs of calls.
 */
final class Model {
    private record Token(char kind, String text, int place) {
    }

    private record Line(List<String> words, boolean glued, boolean opens) {
    }

    private record Layout(int squares, List<Integer> breaks) {
    }

    private static final class Poem {
        int poet;
        int year;
        int holder;
        int worth;
        int translator = -1;
        int hundredths;
        final List<List<Line>> editions = new ArrayList<>();
    }

    private static final class Leave {
        int poem;
        int lands;
        int until = 29999;
        int pence;
        String per = "all";
        int apart;
        int edition = -1;
        int credit;
        int told;
        int gone = -1;
        int goneTold;
    }

    private record Death(int poet, int day, int told) {
    }

    private static final String[] RULE_WORDS = {"page", "sheet", "title", "front", "sheets", "sum", "most"};
    private static final int[][] BOUNDS = {{6, 60, 20}, {2, 32, 8}, {0, 4, 2}, {0, 30, 4}, {1, 40, 4},
        {0, 99999, 99999}, {1, 9, 9}};

    private final StringBuilder tape = new StringBuilder();
    private int clock;
    private Map<String, Integer> rules = firstRules();
    private int faultKind;
    private int faultPlace = -1;
    private final List<Poem> poems = new ArrayList<>();
    private final List<Leave> leaves = new ArrayList<>();
    private final List<Death> deaths = new ArrayList<>();
    private int lands = 1;
    private int day;
    private final List<Integer> candidates = new ArrayList<>();
    private List<Integer> row = new ArrayList<>();
    private int chosen;
    private int[] comes;
    private int[] shares = new int[20];
    private List<Integer> lacking;
    private int asked;

    private static Map<String, Integer> firstRules() {
        Map<String, Integer> first = new HashMap<>();
        for (int i = 0; i < RULE_WORDS.length; i++) {
            first.put(RULE_WORDS[i], BOUNDS[i][2]);
        }
        for (int l = 0; l < 6; l++) {
            first.put("free" + l, 70);
        }
        return first;
    }

    int feed(int a, int b, int c, int d, int e) {
        if (tape.length() > 1580) {
            return -3;
        }
        for (int five : new int[] {a, b, c, d, e}) {
            tape.append((char) (five >>> 24)).append((char) (five >>> 16 & 255));
            tape.append((char) (five >>> 8 & 255)).append((char) (five & 255));
        }
        return tape.length();
    }

    int end(int n) {
        if (n < 0 || n > tape.length()) {
            return -1;
        }
        tape.setLength(n);
        return n;
    }

    int pass(int n) {
        if (n < 1 || n > 9999 || clock > 29999 - n) {
            return -2;
        }
        return clock += n;
    }

    // ---- texts

    /** All tokens; kind w, n, a sign, x for what is none, e for the end. */
    private List<Token> tokens() {
        String text = tape.toString();
        tape.setLength(0);
        List<Token> found = new ArrayList<>();
        int i = 0;
        while (i < text.length()) {
            String rest = text.substring(i);
            String run = rest.replaceFirst("(?s)^([a-z]+|[0-9]+|.).*$", "$1");
            char first = run.charAt(0);
            if (first >= 'a' && first <= 'z') {
                found.add(new Token(run.length() > 12 ? 'x' : 'w', run, i));
            } else if (first >= '0' && first <= '9') {
                found.add(new Token(run.length() > 5 ? 'x' : 'n', run, i));
            } else if (";/+".indexOf(first) >= 0) {
                found.add(new Token(first, run, i));
            } else if (first != ' ' && first != '\n') {
                found.add(new Token('x', run, i));
            }
            i += run.length();
        }
        found.add(new Token('e', "", text.length()));
        return found;
    }

    private boolean faulty(int kind, Token at) {
        faultKind = kind;
        faultPlace = at.place;
        return true;
    }

    int rules() {
        Map<String, Integer> told = new HashMap<>();
        String state = "";
        int clauses = 0;
        faultKind = 0;
        faultPlace = -1;
        for (Token t : tokens()) {
            boolean bad = false;
            if (state.isEmpty()) {
                boolean known = Arrays.asList(RULE_WORDS).contains(t.text) || t.text.equals("free");
                if (t.kind == 'e') {
                    continue;
                }
                bad = t.kind != 'w' || !known ? faulty(1, t) : told.containsKey(t.text) && faulty(3, t);
                state = t.text;
            } else if (state.equals(";")) {
                bad = t.kind != ';' && faulty(1, t);
                state = "";
                clauses++;
            } else if (t.kind != 'n') {
                bad = faulty(1, t);
            } else {
                int n = Integer.parseInt(t.text);
                if (state.equals("free")) {
                    bad = n > 5 ? faulty(2, t) : told.containsKey("free" + n) && faulty(3, t);
                    state = "free" + n;
                } else {
                    int[] bounds = state.startsWith("free") ? new int[] {0, 99}
                            : BOUNDS[Arrays.asList(RULE_WORDS).indexOf(state)];
                    bad = (n < bounds[0] || n > bounds[1]) && faulty(2, t);
                    told.put(state, n);
                    state = ";";
                }
            }
            if (bad) {
                return -1;
            }
        }
        rules = firstRules();
        rules.putAll(told);
        return clauses;
    }

    int fault(int what) {
        return what == 0 ? faultKind : what == 1 ? faultPlace : -1;
    }

    int rule(int what) {
        if (what >= 0 && what < 7) {
            return rules.get(RULE_WORDS[what]);
        }
        return rules.getOrDefault("free" + (what - 10), -1);
    }

    int poem(int poet, int year, int holder, int worth) {
        if (poet < 0 || poet > 19 || year < 0 || year > 2100 || holder < 0 || holder > 19
                || worth < 0 || worth > 99) {
            return -2;
        }
        if (poems.size() == 40) {
            return -3;
        }
        Poem poem = new Poem();
        poem.poet = poet;
        poem.year = year;
        poem.holder = holder;
        poem.worth = worth;
        poems.add(poem);
        return poems.size() - 1;
    }

    int translated(int p, int poet, int hundredths) {
        if (p < 0 || p >= poems.size() || poet < 0 || poet > 19 || hundredths < 1 || hundredths > 99
                || poems.get(p).poet == poet) {
            return -2;
        }
        if (poems.get(p).translator >= 0) {
            return -4;
        }
        poems.get(p).translator = poet;
        poems.get(p).hundredths = hundredths;
        return 1;
    }

    int edition(int p) {
        List<Token> read = tokens();
        if (p < 0 || p >= poems.size()) {
            return -2;
        }
        List<List<Line>> editions = poems.get(p).editions;
        if (editions.size() == 3) {
            return -3;
        }
        faultKind = 0;
        faultPlace = -1;
        List<Line> lines = new ArrayList<>();
        List<String> words = new ArrayList<>();
        boolean glued = false;
        boolean opens = true;
        for (Token t : read) {
            boolean bad = false;
            if (t.kind == 'w') {
                bad = glued ? faulty(1, t) : lines.size() == 30 || words.size() == 8 ? faulty(4, t) : false;
                words.add(t.text);
            } else if (words.isEmpty()) {
                bad = faulty(1, t);
            } else if (t.kind == '+') {
                bad = glued && faulty(1, t);
                glued = true;
            } else if (t.kind == ';' || t.kind == '/' || t.kind == 'e') {
                lines.add(new Line(words, glued, opens));
                words = new ArrayList<>();
                glued = false;
                opens = t.kind == '/';
            } else {
                bad = faulty(1, t);
            }
            if (bad) {
                return -1;
            }
        }
        editions.add(lines);
        return editions.size() - 1;
    }

    private List<Line> lines(int p, int e) {
        boolean isThere = p >= 0 && p < poems.size() && e >= 0 && e < poems.get(p).editions.size();
        return isThere ? poems.get(p).editions.get(e) : null;
    }

    private static boolean mayBreak(List<Line> lines, int i) {
        if (i == lines.size() - 1 || lines.get(i).glued) {
            return false;
        }
        if (lines.get(i + 1).opens) {
            return true;
        }
        int first = i;
        while (!lines.get(first).opens) {
            first--;
        }
        int last = i;
        while (last + 1 < lines.size() && !lines.get(last + 1).opens) {
            last++;
        }
        return i - first + 1 >= 2 && last - i >= 2;
    }

    private void layouts(List<Line> lines, int from, int squares, List<Integer> breaks, List<Layout> found) {
        if (!found.isEmpty() && breaks.size() > found.get(0).breaks.size()) {
            return;
        }
        int room = rules.get("page") - (from == 0 ? rules.get("title") : 0);
        int used = 0;
        for (int i = from; i < lines.size(); i++) {
            used += i > from && lines.get(i).opens ? 2 : 1;
            if (used > room) {
                return;
            }
            if (i == lines.size() - 1) {
                Layout now = new Layout(squares, new ArrayList<>(breaks));
                if (found.isEmpty()) {
                    found.add(now);
                } else if (compare(now, found.get(0)) < 0) {
                    found.set(0, now);
                }
            } else if (mayBreak(lines, i)) {
                breaks.add(i);
                layouts(lines, i + 1, squares + (room - used) * (room - used), breaks, found);
                breaks.remove(breaks.size() - 1);
            }
        }
    }

    private static int compare(Layout a, Layout b) {
        if (a.breaks.size() != b.breaks.size()) {
            return a.breaks.size() - b.breaks.size();
        }
        return a.squares != b.squares ? a.squares - b.squares : compareRows(a.breaks, b.breaks);
    }

    private static int compareRows(List<Integer> a, List<Integer> b) {
        for (int i = 0; i < a.size() && i < b.size(); i++) {
            if (!a.get(i).equals(b.get(i))) {
                return a.get(i) - b.get(i);
            }
        }
        return a.size() - b.size();
    }

    private Layout layout(List<Line> lines) {
        List<Layout> found = new ArrayList<>();
        layouts(lines, 0, 0, new ArrayList<>(), found);
        return found.isEmpty() ? null : found.get(0);
    }

    private int pages(int p, int e) {
        List<Line> lines = lines(p, e);
        Layout layout = lines == null ? null : layout(lines);
        return layout == null ? -1 : layout.breaks.size() + 1;
    }

    int text(int p, int e, int what) {
        List<Line> lines = lines(p, e);
        if (lines == null || what < 0 || what > 4) {
            return -9;
        }
        if (what == 0) {
            return lines.size();
        } else if (what == 1) {
            return (int) lines.stream().filter(Line::opens).count();
        } else if (what == 2) {
            return lines.stream().mapToInt(line -> line.words.size()).sum();
        } else if (what == 3) {
            return pages(p, e);
        }
        Layout layout = layout(lines);
        return layout == null ? -1 : layout.squares;
    }

    int breakAt(int p, int e, int i) {
        List<Line> lines = lines(p, e);
        Layout layout = lines == null ? null : layout(lines);
        return layout == null || i < 0 || i >= layout.breaks.size() ? -1 : layout.breaks.get(i);
    }

    private static int wordCost(List<String> a, List<String> b) {
        int[][] cost = new int[a.size() + 1][b.size() + 1];
        for (int i = 0; i <= a.size(); i++) {
            for (int j = 0; j <= b.size(); j++) {
                if (i == 0 || j == 0) {
                    cost[i][j] = i + j;
                } else {
                    int made = cost[i - 1][j - 1] + (a.get(i - 1).equals(b.get(j - 1)) ? 0 : 1);
                    cost[i][j] = Math.min(made, 1 + Math.min(cost[i - 1][j], cost[i][j - 1]));
                }
            }
        }
        return cost[a.size()][b.size()];
    }

    private static int lineCost(List<Line> a, List<Line> b) {
        int[][] cost = new int[a.size() + 1][b.size() + 1];
        for (int i = 0; i <= a.size(); i++) {
            for (int j = 0; j <= b.size(); j++) {
                int best = i + j == 0 ? 0 : Integer.MAX_VALUE;
                if (i > 0) {
                    best = Math.min(best, cost[i - 1][j] + a.get(i - 1).words.size());
                }
                if (j > 0) {
                    best = Math.min(best, cost[i][j - 1] + b.get(j - 1).words.size());
                }
                if (i > 0 && j > 0) {
                    int made = wordCost(a.get(i - 1).words, b.get(j - 1).words);
                    best = Math.min(best, cost[i - 1][j - 1] + made);
                }
                cost[i][j] = best;
            }
        }
        return cost[a.size()][b.size()];
    }

    int beside(int p, int e, int f) {
        List<Line> a = lines(p, e);
        List<Line> b = lines(p, f);
        return a == null || b == null ? -2 : lineCost(a, b);
    }

    int from(int p, int e) {
        if (lines(p, e) == null) {
            return -2;
        }
        int best = -1;
        for (int f = 0; f < e; f++) {
            if (best < 0 || beside(p, e, f) < beside(p, e, best)) {
                best = f;
            }
        }
        return best;
    }

    // ---- leaves

    int leave(int p) {
        List<Token> read = tokens();
        if (p < 0 || p >= poems.size()) {
            return -2;
        }
        if (leaves.size() == 80) {
            return -3;
        }
        faultKind = 0;
        faultPlace = -1;
        Leave leave = new Leave();
        leave.poem = p;
        leave.told = clock;
        Set<String> told = new HashSet<>();
        String clause = "";
        int inClause = 0;
        for (Token t : read) {
            if (clause.isEmpty()) {
                if (t.kind == 'e') {
                    continue;
                }
                boolean known = t.kind == 'w'
                        && List.of("lands", "until", "fee", "apart", "edition", "credit").contains(t.text);
                if (!known && faulty(1, t) || !told.add(t.text) && faulty(3, t)) {
                    return -1;
                }
                clause = t.text;
                inClause = 0;
            } else if (t.kind == ';' && mayEnd(clause, inClause)) {
                clause = "";
            } else {
                if (clauseFaulty(clause, inClause, t, leave)) {
                    return -1;
                }
                inClause++;
            }
        }
        leaves.add(leave);
        return leaves.size() - 1;
    }

    private static boolean mayEnd(String clause, int inClause) {
        return inClause >= (clause.equals("fee") ? 2 : 1);
    }

    private boolean clauseFaulty(String clause, int inClause, Token t, Leave leave) {
        boolean row = clause.equals("lands") || clause.equals("apart");
        if (clause.equals("credit")) {
            leave.credit++;
            return t.kind != 'w' ? faulty(1, t) : inClause == 6 && faulty(4, t);
        }
        if (clause.equals("fee") && inClause == 1) {
            leave.per = t.text;
            return !List.of("line", "page", "all").contains(t.text) && faulty(1, t);
        }
        if (t.kind != 'n' || !row && inClause > 0) {
            return faulty(1, t);
        }
        int n = Integer.parseInt(t.text);
        switch (clause) {
            case "lands":
                if (n > 5 ? faulty(2, t) : (leave.lands >> n & 1) == 1 && faulty(3, t)) {
                    return true;
                }
                leave.lands |= 1 << n;
                return false;
            case "apart":
                if (n > 19 ? faulty(2, t) : (leave.apart >> n & 1) == 1 && faulty(3, t)) {
                    return true;
                }
                leave.apart |= 1 << n;
                return false;
            case "until":
                leave.until = n;
                return n > 29999 && faulty(2, t);
            case "fee":
                leave.pence = n;
                return n > 9999 && faulty(2, t);
            default:
                leave.edition = n;
                return n > 2 && faulty(2, t);
        }
    }

    int left(int k, int what) {
        if (k < 0 || k >= leaves.size() || what < 0 || what > 8) {
            return -9;
        }
        Leave l = leaves.get(k);
        return new int[] {l.poem, l.lands, l.until, l.pence, List.of("line", "page", "all").indexOf(l.per),
            l.apart, l.edition, l.credit, l.told}[what];
    }

    int gone(int k, int from) {
        if (k < 0 || k >= leaves.size() || from < 0 || from > 29999) {
            return -2;
        }
        if (leaves.get(k).gone >= 0) {
            return -4;
        }
        leaves.get(k).gone = from;
        leaves.get(k).goneTold = clock;
        return 1;
    }

    int dead(int poet, int from) {
        if (poet < 0 || poet > 19 || from < 0 || from > 29999) {
            return -2;
        }
        if (deaths.size() == 60) {
            return -3;
        }
        deaths.add(new Death(poet, from, clock));
        return deaths.size();
    }

    private boolean freeOf(int poet, int land, int onDay, int known) {
        boolean free = false;
        for (Death death : deaths) {
            if (death.poet == poet && death.told <= known) {
                free = onDay >= death.day + 365 * rules.get("free" + land);
            }
        }
        return free;
    }

    int may(int p, int land, int onDay, int known) {
        if (p < 0 || p >= poems.size() || land < 0 || land > 5 || onDay < 0 || onDay > 29999
                || known < 0 || known > 29999) {
            return -2;
        }
        Poem poem = poems.get(p);
        if (freeOf(poem.poet, land, onDay, known)
                && (poem.translator < 0 || freeOf(poem.translator, land, onDay, known))) {
            return 2;
        }
        int k = leaveOn(p, known);
        if (k < 0) {
            return 0;
        }
        Leave l = leaves.get(k);
        boolean gone = l.gone >= 0 && l.goneTold <= known && l.gone <= onDay;
        return (l.lands >> land & 1) == 1 && l.until >= onDay && !gone ? 1 : 0;
    }

    int leaveOn(int p, int known) {
        if (p < 0 || p >= poems.size() || known < 0 || known > 29999) {
            return -2;
        }
        int latest = -1;
        for (int k = 0; k < leaves.size(); k++) {
            if (leaves.get(k).poem == p && leaves.get(k).told <= known) {
                latest = k;
            }
        }
        return latest;
    }

    // ---- the book

    int book(int newLands, int newDay) {
        if (newLands < 1 || newLands > 63 || newDay < 0 || newDay > 29999) {
            return -2;
        }
        lands = newLands;
        day = newDay;
        return 1;
    }

    int candidate(int p) {
        if (p < 0 || p >= poems.size()) {
            return -2;
        }
        if (candidates.contains(p)) {
            return -4;
        }
        if (candidates.size() == 14) {
            return -3;
        }
        candidates.add(p);
        chosen = 0;
        comes = null;
        return candidates.size() - 1;
    }

    private int leastMay(int p, int inLands, int onDay) {
        int least = 2;
        for (int land = 0; land < 6; land++) {
            if ((inLands >> land & 1) == 1) {
                least = Math.min(least, may(p, land, onDay, clock));
            }
        }
        return least;
    }

    /** The leave whose wishes count, or null. */
    private Leave binding(int c) {
        int p = candidates.get(c);
        int k = leaveOn(p, clock);
        return k < 0 || leastMay(p, lands, day) == 2 ? null : leaves.get(k);
    }

    private int printedEdition(int c) {
        Leave leave = binding(c);
        return leave != null && leave.edition >= 0 ? leave.edition
                : poems.get(candidates.get(c)).editions.size() - 1;
    }

    private int pagesOf(int c) {
        return pages(candidates.get(c), printedEdition(c));
    }

    private boolean allowed(int c) {
        return leastMay(candidates.get(c), lands, day) > 0 && pagesOf(c) > 0;
    }

    private int linesOf(int c) {
        return lines(candidates.get(c), printedEdition(c)).size();
    }

    private int fee(int c) {
        Leave leave = binding(c);
        if (!allowed(c) || leave == null) {
            return 0;
        }
        return leave.pence * (leave.per.equals("line") ? linesOf(c) : leave.per.equals("page") ? pagesOf(c) : 1);
    }

    int about(int c, int what) {
        if (c < 0 || c >= candidates.size() || what < 0 || what > 4) {
            return -9;
        }
        return new int[] {candidates.get(c), allowed(c) ? 1 : 0, printedEdition(c), pagesOf(c), fee(c)}[what];
    }

    private Poem poemOf(int c) {
        return poems.get(candidates.get(c));
    }

    /** Worth, fees, pages of a choice; null if it is none. */
    private int[] choice(int set, boolean[] allowed, int[] fees, int[] pages) {
        int[] sums = {0, 0, 0};
        int[] of = new int[20];
        for (int c = 0; c < candidates.size(); c++) {
            if ((set >> c & 1) == 1) {
                if (!allowed[c]) {
                    return null;
                }
                sums[0] += poemOf(c).worth;
                sums[1] += fees[c];
                sums[2] += pages[c];
                of[poemOf(c).poet]++;
            }
        }
        boolean fits = sums[2] + rules.get("front") <= rules.get("sheets") * rules.get("sheet")
                && sums[1] <= rules.get("sum") && Arrays.stream(of).max().getAsInt() <= rules.get("most");
        return fits ? sums : null;
    }

    int choose() {
        int best = -1;
        int[] bestSums = null;
        int n = candidates.size();
        boolean[] allowed = new boolean[n];
        int[] fees = new int[n];
        int[] pages = new int[n];
        for (int c = 0; c < n; c++) {
            allowed[c] = allowed(c);
            fees[c] = fee(c);
            pages[c] = pagesOf(c);
        }
        for (int set = 0; set < 1 << n; set++) {
            int[] sums = choice(set, allowed, fees, pages);
            if (sums != null && (bestSums == null || sums[0] > bestSums[0] || sums[0] == bestSums[0]
                    && (sums[1] < bestSums[1] || sums[1] == bestSums[1] && sums[2] < bestSums[2]))) {
                best = set;
                bestSums = sums;
            }
        }
        if (bestSums == null) {
            return -1;
        }
        chosen = best;
        return bestSums[0];
    }

    int chosen() {
        return chosen;
    }

    private boolean isNoSet(int set) {
        return set < 0 || set >= 1 << candidates.size();
    }

    int worth(int set) {
        if (isNoSet(set)) {
            return -2;
        }
        int n = candidates.size();
        boolean[] allowed = new boolean[n];
        int[] fees = new int[n];
        int[] pages = new int[n];
        for (int c = 0; c < n; c++) {
            allowed[c] = allowed(c);
            fees[c] = fee(c);
            pages[c] = pagesOf(c);
        }
        int[] sums = choice(set, allowed, fees, pages);
        return sums == null ? -1 : sums[0];
    }

    private boolean beside(int c, int d) {
        Leave one = binding(c);
        Leave other = binding(d);
        int a = poemOf(c).poet;
        int b = poemOf(d).poet;
        return a != b && (one == null || (one.apart >> b & 1) == 0) && (other == null || (other.apart >> a & 1) == 0);
    }

    private int steps(List<Integer> cs) {
        int sum = 0;
        for (int i = 1; i < cs.size(); i++) {
            sum += Math.max(0, poemOf(cs.get(i - 1)).year - poemOf(cs.get(i)).year);
        }
        return sum;
    }

    private void orders(List<Integer> members, boolean[][] beside, List<Integer> now, List<List<Integer>> best) {
        if (!best.isEmpty() && steps(now) >= steps(best.get(0))) {
            return;
        }
        if (now.size() == members.size()) {
            best.clear();
            best.add(new ArrayList<>(now));
            return;
        }
        for (int c : members) {
            if (!now.contains(c) && (now.isEmpty() || beside[now.get(now.size() - 1)][c])) {
                now.add(c);
                orders(members, beside, now, best);
                now.remove(now.size() - 1);
            }
        }
    }

    int order(int set) {
        if (isNoSet(set) || Integer.bitCount(set) < 1 || Integer.bitCount(set) > 10) {
            return -2;
        }
        List<Integer> members = new ArrayList<>();
        boolean[][] beside = new boolean[14][14];
        for (int c = 0; c < candidates.size(); c++) {
            if ((set >> c & 1) == 1) {
                members.add(c);
                if (!allowed(c)) {
                    return -4;
                }
            }
        }
        for (int c : members) {
            for (int d : members) {
                beside[c][d] = beside(c, d);
            }
        }
        List<List<Integer>> best = new ArrayList<>();
        orders(members, beside, new ArrayList<>(), best);
        return best.isEmpty() ? -1 : take(best.get(0));
    }

    private int take(List<Integer> newRow) {
        row = newRow;
        comes = null;
        lacking = null;
        return steps(row);
    }

    int lay() {
        String text = tape.toString();
        tape.setLength(0);
        List<Integer> laid = new ArrayList<>();
        for (char sign : text.toCharArray()) {
            int c = sign - 65;
            if (c < 0 || c >= candidates.size() || laid.contains(c)) {
                return -1;
            }
            laid.add(c);
        }
        if (laid.isEmpty()) {
            return -1;
        }
        for (int c : laid) {
            if (!allowed(c)) {
                return -4;
            }
        }
        return stands(laid) ? take(laid) : -1;
    }

    private boolean stands(List<Integer> cs) {
        for (int i = 1; i < cs.size(); i++) {
            if (!beside(cs.get(i - 1), cs.get(i))) {
                return false;
            }
        }
        return true;
    }

    private boolean rowAllowed() {
        return row.stream().allMatch(this::allowed);
    }

    private int begins(int i) {
        int page = rules.get("front") + 1;
        for (int c : row.subList(0, i)) {
            page += pagesOf(c);
        }
        return page;
    }

    int place(int i, int what) {
        if (i < 0 || i >= row.size() || what < 0 || what > 3 || what > 0 && !rowAllowed()) {
            return -1;
        }
        int c = row.get(i);
        return what == 0 ? c : what == 1 ? begins(i) : what == 2 ? pagesOf(c) : printedEdition(c);
    }

    int printed(int what) {
        if (what < 0 || what > 3 || what > 0 && !rowAllowed()) {
            return -1;
        }
        int pages = begins(row.size()) - 1;
        int sheets = 0;
        while (sheets * rules.get("sheet") < pages) {
            sheets++;
        }
        return new int[] {row.size(), pages, sheets, sheets * rules.get("sheet") - pages}[what];
    }

    int index(int i) {
        if (i < 0 || i >= row.size() || !rowAllowed()) {
            return -1;
        }
        List<Integer> places = new ArrayList<>();
        for (int place = 0; place < row.size(); place++) {
            places.add(place);
        }
        // A space is less than any letter, so joined lines compare as the document asks.
        places.sort(Comparator.comparing(place -> String.join(" ",
                lines(candidates.get(row.get(place)), printedEdition(row.get(place))).get(0).words)));
        return places.get(i);
    }

    int withdraw(int i) {
        if (i < 0 || i >= row.size()) {
            return -2;
        }
        for (int k = 0; k < row.size(); k++) {
            if (k != i && !allowed(row.get(k))) {
                return -4;
            }
        }
        if (pagesOf(row.get(i)) < 0) {
            return -4;
        }
        List<List<Integer>> ways = new ArrayList<>();
        ways.add(List.of());
        for (int a = 0; a < candidates.size(); a++) {
            for (int b = -1; b < candidates.size(); b++) {
                if (a != b && !row.contains(a) && allowed(a) && (b < 0 || !row.contains(b) && allowed(b))) {
                    ways.add(b < 0 ? List.of(a) : List.of(a, b));
                }
            }
        }
        Collections.shuffle(ways, new java.util.Random(i));
        int[] best = null;
        List<Integer> bestWay = null;
        for (List<Integer> way : ways) {
            for (int empty = 0; empty <= 3; empty++) {
                int[] now = weigh(i, way, empty);
                if (now != null && (bestWay == null || Arrays.compare(now, best) < 0
                        || Arrays.equals(now, best) && compareRows(way, bestWay) < 0)) {
                    best = now;
                    bestWay = way;
                }
            }
        }
        if (bestWay == null) {
            return -1;
        }
        comes = new int[] {bestWay.size(), bestWay.size() > 0 ? bestWay.get(0) : -1,
            bestWay.size() > 1 ? bestWay.get(1) : -1, best[1]};
        return best[0];
    }

    /** How many are moved, empty pages, lack of worth; null if they can't stand so. */
    private int[] weigh(int i, List<Integer> way, int empty) {
        List<Integer> near = new ArrayList<>();
        if (i > 0) {
            near.add(row.get(i - 1));
        }
        near.addAll(way);
        if (i + 1 < row.size()) {
            near.add(row.get(i + 1));
        }
        if (!stands(near)) {
            return null;
        }
        int page = begins(i) + empty;
        int worth = 0;
        for (int c : way) {
            page += pagesOf(c);
            worth += poemOf(c).worth;
        }
        int moved = 0;
        for (int k = i + 1; k < row.size(); k++) {
            moved += page == begins(k) ? 0 : 1;
            page += pagesOf(row.get(k));
        }
        return new int[] {moved, empty, -worth};
    }

    int comes(int what) {
        return comes == null || what < 0 || what > 3 ? -1 : comes[what];
    }

    int royalty(int pence) {
        if (pence < 0 || pence > 9999999) {
            return -2;
        }
        if (row.isEmpty() || !rowAllowed()) {
            return -4;
        }
        int n = row.size();
        long all = row.stream().mapToLong(this::linesOf).sum();
        long[] parts = new long[n];
        List<Integer> byRest = new ArrayList<>();
        long over = pence;
        for (int i = 0; i < n; i++) {
            parts[i] = (long) pence * linesOf(row.get(i)) / all;
            over -= parts[i];
            byRest.add(i);
        }
        byRest.sort(Comparator.comparing(i -> -((long) pence * linesOf(row.get(i)) % all)));
        for (int k = 0; k < over; k++) {
            parts[byRest.get(k)]++;
        }
        shares = new int[20];
        for (int i = 0; i < n; i++) {
            Poem poem = poemOf(row.get(i));
            long other = poem.translator < 0 ? 0 : parts[i] * poem.hundredths / 100;
            if (poem.translator >= 0) {
                shares[poem.translator] += (int) other;
            }
            shares[poem.poet] += (int) (parts[i] - other);
        }
        return 1;
    }

    int share(int poet) {
        return poet < 0 || poet > 19 ? -2 : shares[poet];
    }

    int again(int inLands, int onDay) {
        if (inLands < 1 || inLands > 63 || onDay < 0 || onDay > 29999) {
            return -2;
        }
        lacking = new ArrayList<>();
        asked = 0;
        int barred = 0;
        for (int c : row) {
            int bits = 0;
            for (int land = 0; land < 6; land++) {
                if ((inLands >> land & 1) == 1 && may(candidates.get(c), land, onDay, clock) == 0) {
                    bits |= 1 << land;
                }
            }
            lacking.add(bits);
            barred += bits == 0 ? 0 : 1;
            asked |= bits == 0 ? 0 : 1 << poemOf(c).holder;
        }
        return barred;
    }

    int lacking(int i) {
        return lacking == null || i < 0 || i >= lacking.size() ? -1 : lacking.get(i);
    }

    int ask() {
        return lacking == null ? 0 : asked;
    }

    int count(int what) {
        return what < 0 || what > 6 ? -1 : new int[] {clock, poems.size(), leaves.size(), candidates.size(),
            tape.length(), lands, day}[what];
    }
}
