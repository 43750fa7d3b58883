import java.util.Arrays;

/** The desk of an anthology. The document's promises say what each call answers. */
public final class PoetsBook {
    public static final int NONE = -1;
    public static final int RANGE = -2;
    public static final int FULL = -3;
    public static final int STATE = -4;

    private static final int NO_SUCH = -9;
    private static final int LAST_DAY = 29999;
    private static final int LONGEST_PASS = 9999;
    private static final int LANDS = 6;
    private static final int ALL_LANDS = 63;
    private static final int POETS = 20;
    private static final int HOLDERS = 20;
    private static final int LAST_YEAR = 2100;
    private static final int GREATEST_WORTH = 99;
    private static final int MOST_POEMS = 40;
    private static final int MOST_CANDIDATES = 14;
    private static final int MOST_ORDERED = 10;
    private static final int MOST_PENCE = 9999999;
    private static final int FIRST_LETTER = 65;

    private static final int SYNTAX = 1;
    private static final int BOUNDS = 2;
    private static final int TWICE = 3;
    private static final int ROOM = 4;

    private final Tape tape = new Tape();
    private final Rules ruling = new Rules();
    private final Rights rights = new Rights();
    private final Bench bench = new Bench();
    private final Chooser chooser = new Chooser();
    private final Orderer orderer = new Orderer();
    private final Withdrawal withdrawal = new Withdrawal();
    private final Poem[] poems = new Poem[MOST_POEMS];
    private int poemCount = 0;
    private int clock = 0;
    private int bookLands = 1;
    private int bookDay = 0;
    private final Candidate[] candidates = new Candidate[MOST_CANDIDATES];
    private int candidateCount = 0;
    private final int[] row = new int[MOST_CANDIDATES];
    private int rowLength = 0;
    private final int[] shares = new int[POETS];
    private final int[] lackingLands = new int[MOST_CANDIDATES];
    private boolean lackingKnown = false;
    private int askedHolders = 0;

    public PoetsBook() {
    }

    public int feed(int a, int b, int c, int d, int e) {
        if (tape.length + 20 > Tape.MOST_BYTES) {
            return FULL;
        }
        tape.put(a);
        tape.put(b);
        tape.put(c);
        tape.put(d);
        tape.put(e);
        return tape.length;
    }

    public int end(int n) {
        if (n < 0 || n > tape.length) {
            return NONE;
        }
        tape.length = n;
        return n;
    }

    public int pass(int n) {
        if (n < 1 || n > LONGEST_PASS || clock + n > LAST_DAY) {
            return RANGE;
        }
        clock += n;
        return clock;
    }

    public int rules() {
        int clauses = ruling.readFrom(tape);
        tape.length = 0;
        return clauses;
    }

    public int fault(int what) {
        if (what == 0) {
            return tape.faultKind;
        }
        return what == 1 ? tape.faultPlace : NONE;
    }

    public int rule(int what) {
        if (what >= 10 && what < 10 + LANDS) {
            return ruling.yearsOf(what - 10);
        }
        return ruling.valueOf(what);
    }

    // ---- poems

    public int poem(int poet, int year, int holder, int worth) {
        if (!isWithin(poet, POETS - 1) || !isWithin(year, LAST_YEAR)
                || !isWithin(holder, HOLDERS - 1) || !isWithin(worth, GREATEST_WORTH)) {
            return RANGE;
        }
        if (poemCount >= MOST_POEMS) {
            return FULL;
        }
        poems[poemCount] = new Poem(poet, year, holder, worth);
        poemCount++;
        return poemCount - 1;
    }

    public int translated(int p, int poet, int hundredths) {
        Poem poem = poemAt(p);
        if (poem == null || !isWithin(poet, POETS - 1) || hundredths < 1 || hundredths > 99
                || poet == poem.poet) {
            return RANGE;
        }
        if (poem.translator != NONE) {
            return STATE;
        }
        poem.translator = poet;
        poem.hundredths = hundredths;
        return 1;
    }

    public int edition(int p) {
        Poem poem = poemAt(p);
        int told = NONE;
        if (poem == null) {
            told = RANGE;
        } else if (poem.editionCount >= Poem.MOST_EDITIONS) {
            told = FULL;
        } else if (bench.draft.readFrom(tape)) {
            told = poem.addEdition(bench.draft.trimmed());
        }
        tape.length = 0;
        return told;
    }

    public int text(int p, int e, int what) {
        Edition edition = editionAt(p, e);
        if (edition == null) {
            return NO_SUCH;
        }
        bench.layOut(edition, ruling);
        switch (what) {
            case 0: return edition.lines;
            case 1: return edition.stanzaCount();
            case 2: return edition.wordCount();
            case 3: return edition.pages;
            case 4: return edition.squares;
            default: return NO_SUCH;
        }
    }

    public int breakAt(int p, int e, int i) {
        Edition edition = editionAt(p, e);
        if (edition == null) {
            return NONE;
        }
        bench.layOut(edition, ruling);
        return edition.breakNumber(i);
    }

    public int beside(int p, int e, int f) {
        Poem poem = poemAt(p);
        return poem == null ? RANGE : poem.costOf(e, f, bench);
    }

    public int from(int p, int e) {
        Poem poem = poemAt(p);
        if (poem == null || editionAt(p, e) == null) {
            return RANGE;
        }
        int parent = NONE;
        int least = NONE;
        for (int f = 0; f < e; f++) {
            int cost = poem.costOf(e, f, bench);
            if (least == NONE || cost < least) {
                least = cost;
                parent = f;
            }
        }
        return parent;
    }

    // ---- leaves

    public int leave(int p) {
        int told = NONE;
        if (poemAt(p) == null) {
            told = RANGE;
        } else if (rights.leaveCount >= Rights.MOST_LEAVES) {
            told = FULL;
        } else {
            Leave leave = new Leave(p, clock);
            if (leave.readFrom(tape)) {
                told = rights.addLeave(leave);
            }
        }
        tape.length = 0;
        return told;
    }

    public int left(int k, int what) {
        Leave leave = rights.leaveAt(k);
        return leave == null ? NO_SUCH : leave.told(what);
    }

    public int gone(int k, int day) {
        Leave leave = rights.leaveAt(k);
        if (leave == null || !isWithin(day, LAST_DAY)) {
            return RANGE;
        }
        if (leave.goneFrom != NONE) {
            return STATE;
        }
        leave.goneFrom = day;
        leave.goneToldOn = clock;
        return 1;
    }

    public int dead(int poet, int day) {
        if (!isWithin(poet, POETS - 1) || !isWithin(day, LAST_DAY)) {
            return RANGE;
        }
        return rights.addDeath(poet, day, clock);
    }

    public int may(int p, int land, int day, int known) {
        Poem poem = poemAt(p);
        if (poem == null || !isWithin(land, LANDS - 1) || !isWithin(day, LAST_DAY)
                || !isWithin(known, LAST_DAY)) {
            return RANGE;
        }
        if (hasBit(rights.freeLands(poem, ruling, day, known), land)) {
            return 2;
        }
        return hasBit(rights.grantedLands(p, day, known), land) ? 1 : 0;
    }

    public int leaveOn(int p, int known) {
        if (poemAt(p) == null || !isWithin(known, LAST_DAY)) {
            return RANGE;
        }
        return rights.latestLeave(p, known);
    }

    // ---- the book

    public int book(int lands, int day) {
        if (!areLands(lands) || !isWithin(day, LAST_DAY)) {
            return RANGE;
        }
        bookLands = lands;
        bookDay = day;
        return 1;
    }

    public int candidate(int p) {
        Poem poem = poemAt(p);
        if (poem == null) {
            return RANGE;
        }
        for (int c = 0; c < candidateCount; c++) {
            if (candidates[c].number == p) {
                return STATE;
            }
        }
        if (candidateCount >= MOST_CANDIDATES) {
            return FULL;
        }
        candidates[candidateCount] = new Candidate(p, poem);
        candidateCount++;
        chooser.chosenSet = 0;
        withdrawal.isKnown = false;
        return candidateCount - 1;
    }

    public int about(int c, int what) {
        if (c < 0 || c >= candidateCount) {
            return NO_SUCH;
        }
        Candidate candidate = candidates[c];
        look(candidate);
        switch (what) {
            case 0: return candidate.number;
            case 1: return candidate.isAllowed ? 1 : 0;
            case 2: return candidate.printed;
            case 3: return candidate.pages;
            case 4: return candidate.fee;
            default: return NO_SUCH;
        }
    }

    public int choose() {
        lookAtSet(allCandidates());
        return chooser.findBest(candidates, candidateCount, ruling);
    }

    public int chosen() {
        return chooser.chosenSet;
    }

    public int worth(int set) {
        if (!isSet(set)) {
            return RANGE;
        }
        lookAtSet(set);
        return chooser.worthOf(set, candidates, candidateCount, ruling);
    }

    public int order(int set) {
        int size = Integer.bitCount(set);
        if (!isSet(set) || size < 1 || size > MOST_ORDERED) {
            return RANGE;
        }
        if (!lookAtSet(set)) {
            return STATE;
        }
        int steps = orderer.findBest(set, candidates, candidateCount);
        if (steps != NONE) {
            takeRow(size);
        }
        return steps;
    }

    public int lay() {
        int told = readRow();
        tape.length = 0;
        return told;
    }

    public int place(int i, int what) {
        if (i < 0 || i >= rowLength || what < 0 || what > 3) {
            return NONE;
        }
        if (what == 0) {
            return row[i];
        }
        if (!lookAtRow()) {
            return NONE;
        }
        if (what == 1) {
            return pagesAhead(i) + 1;
        }
        return what == 2 ? candidates[row[i]].pages : candidates[row[i]].printed;
    }

    public int printed(int what) {
        if (what == 0) {
            return rowLength;
        }
        if (what < 0 || what > 3 || !lookAtRow()) {
            return NONE;
        }
        int pages = pagesAhead(rowLength);
        int sheet = Math.max(1, ruling.valueOf(Rules.SHEET));
        int sheets = (pages + sheet - 1) / sheet;
        if (what == 1) {
            return pages;
        }
        return what == 2 ? sheets : sheets * sheet - pages;
    }

    public int index(int i) {
        if (i < 0 || i >= rowLength || !lookAtRow()) {
            return NONE;
        }
        for (int place = 0; place < rowLength; place++) {
            if (indexRank(place) == i) {
                return place;
            }
        }
        return NONE;
    }

    public int withdraw(int i) {
        if (i < 0 || i >= rowLength) {
            return RANGE;
        }
        lookAtSet(allCandidates());
        for (int place = 0; place < rowLength; place++) {
            if (place != i && !candidates[row[place]].isAllowed) {
                return STATE;
            }
        }
        if (candidates[row[i]].pages == NONE) {
            return STATE;
        }
        withdrawal.prepare(candidates, row, rowLength, i);
        return withdrawal.findBest(candidates, candidateCount);
    }

    public int comes(int what) {
        return withdrawal.told(what);
    }

    public int royalty(int pence) {
        if (!isWithin(pence, MOST_PENCE)) {
            return RANGE;
        }
        if (rowLength == 0 || !lookAtRow()) {
            return STATE;
        }
        partAmongPoets(pence);
        return 1;
    }

    public int share(int poet) {
        return isWithin(poet, POETS - 1) ? shares[poet] : RANGE;
    }

    public int again(int lands, int day) {
        if (!areLands(lands) || !isWithin(day, LAST_DAY)) {
            return RANGE;
        }
        int barred = 0;
        askedHolders = 0;
        for (int i = 0; i < rowLength; i++) {
            Candidate candidate = candidates[row[i]];
            int open = rights.freeLands(candidate.poem, ruling, day, clock)
                    | rights.grantedLands(candidate.number, day, clock);
            lackingLands[i] = lands & ~open;
            if (lackingLands[i] != 0) {
                barred++;
                askedHolders |= 1 << candidate.poem.holder;
            }
        }
        lackingKnown = true;
        return barred;
    }

    public int lacking(int i) {
        if (!lackingKnown || i < 0 || i >= rowLength) {
            return NONE;
        }
        return lackingLands[i];
    }

    public int ask() {
        return lackingKnown ? askedHolders : 0;
    }

    public int count(int what) {
        switch (what) {
            case 0: return clock;
            case 1: return poemCount;
            case 2: return rights.leaveCount;
            case 3: return candidateCount;
            case 4: return tape.length;
            case 5: return bookLands;
            case 6: return bookDay;
            default: return NONE;
        }
    }

    // ---- what the calls share

    private static boolean isWithin(int number, int greatest) {
        return number >= 0 && number <= greatest;
    }

    private static boolean areLands(int lands) {
        return lands >= 1 && lands <= ALL_LANDS;
    }

    private static boolean hasBit(int bits, int bit) {
        return (bits >>> bit & 1) != 0;
    }

    private Poem poemAt(int p) {
        return p < 0 || p >= poemCount ? null : poems[p];
    }

    private Edition editionAt(int p, int e) {
        Poem poem = poemAt(p);
        return poem == null ? null : poem.editionNumber(e);
    }

    private int allCandidates() {
        return (1 << candidateCount) - 1;
    }

    private boolean isSet(int set) {
        return (set & ~allCandidates()) == 0;
    }

    /** Brings what is known of a candidate up to today. */
    private void look(Candidate candidate) {
        Poem poem = candidate.poem;
        Leave leave = rights.leaveAt(rights.latestLeave(candidate.number, clock));
        int free = rights.freeLands(poem, ruling, bookDay, clock);
        int open = free | (leave == null ? 0 : leave.grantedLands(bookDay, clock));
        // A poem that is free everywhere owes nothing to what its leave asks.
        Leave binding = (bookLands & ~free) == 0 ? null : leave;
        candidate.printed = poem.editionCount - 1;
        if (binding != null && binding.edition != NONE) {
            candidate.printed = binding.edition;
        }
        Edition edition = poem.editionNumber(candidate.printed);
        if (edition != null) {
            bench.layOut(edition, ruling);
        }
        candidate.edition = edition;
        candidate.pages = edition == null ? NONE : edition.pages;
        candidate.isAllowed = (bookLands & ~open) == 0 && candidate.pages != NONE;
        candidate.apart = binding == null ? 0 : binding.apart;
        candidate.fee = 0;
        if (candidate.isAllowed && binding != null && edition != null) {
            candidate.fee = binding.feeFor(edition.lines, edition.pages);
        }
    }

    /** Looks at the candidates of a set; tells whether all of them are allowed. */
    private boolean lookAtSet(int set) {
        boolean allAllowed = true;
        for (int c = 0; c < candidateCount; c++) {
            if (hasBit(set, c)) {
                look(candidates[c]);
                allAllowed = allAllowed && candidates[c].isAllowed;
            }
        }
        return allAllowed;
    }

    private boolean lookAtRow() {
        boolean allAllowed = true;
        for (int i = 0; i < rowLength; i++) {
            look(candidates[row[i]]);
            allAllowed = allAllowed && candidates[row[i]].isAllowed;
        }
        return allAllowed;
    }

    private int readRow() {
        int size = tape.length;
        if (size < 1 || size > MOST_CANDIDATES) {
            return NONE;
        }
        int set = 0;
        for (int i = 0; i < size; i++) {
            int c = tape.byteAt(i) - FIRST_LETTER;
            if (c < 0 || c >= candidateCount || hasBit(set, c)) {
                return NONE;
            }
            set |= 1 << c;
            orderer.found[i] = c;
        }
        if (!lookAtSet(set)) {
            return STATE;
        }
        int steps = orderer.stepsOfFound(size, candidates, candidateCount);
        if (steps != NONE) {
            takeRow(size);
        }
        return steps;
    }

    private void takeRow(int size) {
        for (int i = 0; i < size && i < row.length; i++) {
            row[i] = orderer.found[i];
        }
        rowLength = size;
        withdrawal.isKnown = false;
        lackingKnown = false;
    }

    private int pagesAhead(int place) {
        int pages = ruling.valueOf(Rules.FRONT);
        for (int i = 0; i < place && i < rowLength; i++) {
            pages += candidates[row[i]].pages;
        }
        return pages;
    }

    private Edition printedAt(int place) {
        return candidates[row[place]].edition;
    }

    private int indexRank(int place) {
        Edition own = printedAt(place);
        int rank = 0;
        for (int i = 0; i < rowLength; i++) {
            Edition other = printedAt(i);
            if (own != null && other != null && i != place) {
                int compared = other.compareFirstLine(own);
                if (compared < 0 || compared == 0 && i < place) {
                    rank++;
                }
            }
        }
        return rank;
    }

    private int linesAt(int place) {
        Edition edition = printedAt(place);
        return edition == null ? 0 : edition.lines;
    }

    private void partAmongPoets(int pence) {
        int lines = 0;
        int parted = 0;
        for (int i = 0; i < rowLength; i++) {
            lines += linesAt(i);
        }
        if (lines == 0) {
            return;
        }
        Arrays.fill(shares, 0);
        for (int i = 0; i < rowLength; i++) {
            parted += pence * linesAt(i) / lines;
        }
        for (int i = 0; i < rowLength; i++) {
            int had = pence * linesAt(i) / lines;
            if (restRank(i, pence, lines) < pence - parted) {
                had++;
            }
            payPoem(candidates[row[i]].poem, had);
        }
    }

    /** How many of the row have a greater rest, or a like one at an earlier place. */
    private int restRank(int place, int pence, int lines) {
        if (lines == 0) {
            return 0;
        }
        int own = pence * linesAt(place) % lines;
        int rank = 0;
        for (int i = 0; i < rowLength; i++) {
            int rest = pence * linesAt(i) % lines;
            if (rest > own || rest == own && i < place) {
                rank++;
            }
        }
        return rank;
    }

    private void payPoem(Poem poem, int pence) {
        int translation = 0;
        if (poem.translator != NONE) {
            translation = pence * poem.hundredths / 100;
            shares[poem.translator] += translation;
        }
        shares[poem.poet] += pence - translation;
    }

    /** The bytes that were fed, read token by token, and the fault of the latest reading. */
    private static final class Tape {
        static final int MOST_BYTES = 1600;
        static final int END = 0;
        static final int WORD = 1;
        static final int NUMBER = 2;
        // A sign's kind is its own byte; what is no token at all is broken.
        static final int BROKEN = 3;
        private static final int LONGEST_WORD = 12;
        private static final int LONGEST_NUMBER = 5;
        private static final int LETTERS = 26;

        private final byte[] bytes = new byte[MOST_BYTES];
        int length = 0;
        int kind = END;
        int faultKind = 0;
        int faultPlace = NONE;
        private int start = 0;
        private int next = 0;

        void put(int four) {
            for (int shift = 24; shift >= 0 && length < bytes.length; shift -= 8) {
                bytes[length] = (byte) (four >>> shift);
                length++;
            }
        }

        int byteAt(int i) {
            return i < 0 || i >= length ? NONE : bytes[i] & 255;
        }

        void begin() {
            next = 0;
            faultKind = 0;
            faultPlace = NONE;
        }

        void advance() {
            while (next < length && isBlank(bytes[next])) {
                next++;
            }
            start = next;
            if (next >= length) {
                kind = END;
                return;
            }
            int first = bytes[next];
            if (isLetter(first)) {
                while (next < length && isLetter(bytes[next])) {
                    next++;
                }
                kind = next - start <= LONGEST_WORD ? WORD : BROKEN;
            } else if (isDigit(first)) {
                while (next < length && isDigit(bytes[next])) {
                    next++;
                }
                kind = next - start <= LONGEST_NUMBER ? NUMBER : BROKEN;
            } else {
                next++;
                kind = first == ';' || first == '/' || first == '+' ? first : BROKEN;
            }
        }

        /** Marks a fault at the token that was read last; always false, for the reader to hand on. */
        boolean fails(int kindOfFault) {
            faultKind = kindOfFault;
            faultPlace = start;
            return false;
        }

        boolean nextIsNumber(int least, int greatest) {
            advance();
            if (kind != NUMBER) {
                return fails(SYNTAX);
            }
            int number = number();
            return number >= least && number <= greatest || fails(BOUNDS);
        }

        boolean nextEndsClause() {
            advance();
            return kind == ';' || fails(SYNTAX);
        }

        int number() {
            int number = 0;
            for (int i = start; i < next && i < length; i++) {
                number = number * 10 + bytes[i] - '0';
            }
            return number;
        }

        boolean says(String word) {
            if (kind != WORD || next - start != word.length()) {
                return false;
            }
            for (int k = 0; k < word.length() && start + k < length; k++) {
                if (bytes[start + k] != word.charAt(k)) {
                    return false;
                }
            }
            return true;
        }

        /** The word as one number; such numbers rise as words do in the index. */
        long packedWord() {
            long packed = 0;
            for (int k = 0; k < LONGEST_WORD; k++) {
                int letter = start + k < next && start + k < length ? bytes[start + k] - 'a' + 1 : 0;
                packed = packed * (LETTERS + 1) + letter;
            }
            return packed;
        }

        private static boolean isBlank(int sign) {
            return sign == 32 || sign == 10;
        }

        private static boolean isLetter(int sign) {
            return sign >= 'a' && sign <= 'z';
        }

        private static boolean isDigit(int sign) {
            return sign >= '0' && sign <= '9';
        }
    }

    /** The rules of the book, and a draft for those that are being read. */
    private static final class Rules {
        static final int PAGE = 0;
        static final int SHEET = 1;
        static final int TITLE = 2;
        static final int FRONT = 3;
        static final int SHEETS = 4;
        static final int SUM = 5;
        static final int MOST = 6;
        private static final int FREE = 7;
        private static final int VALUES = 7;
        private static final int MOST_CLAUSES = VALUES + LANDS;
        private static final int FIRST_YEARS = 70;
        private static final int MOST_YEARS = 99;
        private static final int[] LEAST = {6, 2, 0, 0, 1, 0, 1};
        private static final int[] GREATEST = {60, 32, 4, 30, 40, 99999, 9};
        private static final int[] AT_FIRST = {20, 8, 2, 4, 4, 99999, 9};

        private final int[] values = new int[VALUES];
        private final int[] years = new int[LANDS];
        private final int[] draftValues = new int[VALUES];
        private final int[] draftYears = new int[LANDS];
        private int toldValues = 0;
        private int toldLands = 0;

        Rules() {
            beginDraft();
            keepDraft();
        }

        int valueOf(int what) {
            return what < 0 || what >= VALUES ? NONE : values[what];
        }

        int yearsOf(int land) {
            return land < 0 || land >= LANDS ? NONE : years[land];
        }

        private void beginDraft() {
            System.arraycopy(AT_FIRST, 0, draftValues, 0, VALUES);
            Arrays.fill(draftYears, FIRST_YEARS);
            toldValues = 0;
            toldLands = 0;
        }

        private void keepDraft() {
            System.arraycopy(draftValues, 0, values, 0, VALUES);
            System.arraycopy(draftYears, 0, years, 0, LANDS);
        }

        /** How many clauses were read, or NONE with a fault. */
        int readFrom(Tape tape) {
            beginDraft();
            tape.begin();
            for (int clauses = 0; clauses <= MOST_CLAUSES; clauses++) {
                tape.advance();
                if (tape.kind == Tape.END) {
                    keepDraft();
                    return clauses;
                }
                int clause = clauseNamed(tape);
                boolean isRead = clause == FREE ? readFree(tape) : readValue(clause, tape);
                if (!isRead) {
                    return NONE;
                }
            }
            return NONE;
        }

        private static int clauseNamed(Tape tape) {
            if (tape.says("page")) {
                return PAGE;
            } else if (tape.says("sheet")) {
                return SHEET;
            } else if (tape.says("title")) {
                return TITLE;
            } else if (tape.says("front")) {
                return FRONT;
            } else if (tape.says("sheets")) {
                return SHEETS;
            } else if (tape.says("sum")) {
                return SUM;
            } else if (tape.says("most")) {
                return MOST;
            }
            return tape.says("free") ? FREE : NONE;
        }

        private boolean readValue(int clause, Tape tape) {
            if (clause < 0 || clause >= VALUES) {
                return tape.fails(SYNTAX);
            }
            if (hasBit(toldValues, clause)) {
                return tape.fails(TWICE);
            }
            toldValues |= 1 << clause;
            if (!tape.nextIsNumber(LEAST[clause], GREATEST[clause])) {
                return false;
            }
            draftValues[clause] = tape.number();
            return tape.nextEndsClause();
        }

        private boolean readFree(Tape tape) {
            if (!tape.nextIsNumber(0, LANDS - 1)) {
                return false;
            }
            int land = tape.number();
            if (land < 0 || land >= LANDS) {
                return tape.fails(BOUNDS);
            }
            if (hasBit(toldLands, land)) {
                return tape.fails(TWICE);
            }
            toldLands |= 1 << land;
            if (!tape.nextIsNumber(0, MOST_YEARS)) {
                return false;
            }
            draftYears[land] = tape.number();
            return tape.nextEndsClause();
        }
    }

    /** A text of lines and stanzas, and how it was laid out last. */
    private static final class Edition {
        static final int MOST_LINES = 30;
        static final int MOST_WORDS = 8;

        private final long[] words;
        private final int[] starts;
        private final int[] breaks;
        int lines = 0;
        private int glued = 0;
        private int opening = 0;
        // The measure it was laid out for; 0 ahead of any.
        private int forPage = 0;
        private int forTitle = 0;
        int pages = NONE;
        int squares = NONE;

        Edition(int wordRoom, int lineRoom) {
            words = new long[Math.max(0, wordRoom)];
            starts = new int[Math.max(0, lineRoom) + 1];
            breaks = new int[Math.max(0, lineRoom)];
        }

        boolean readFrom(Tape tape) {
            lines = 0;
            glued = 0;
            opening = 1;
            tape.begin();
            for (int n = 0; n <= MOST_LINES; n++) {
                tape.advance();
                if (!readLine(tape)) {
                    return false;
                }
                if (tape.kind == Tape.END) {
                    return true;
                }
                if (tape.kind == '/' && lines < MOST_LINES) {
                    opening |= 1 << lines;
                }
            }
            return false;
        }

        /** Reads the line that begins with the token at hand, and the token behind it. */
        private boolean readLine(Tape tape) {
            if (tape.kind != Tape.WORD) {
                return tape.fails(SYNTAX);
            }
            if (lines >= MOST_LINES || lines + 1 >= starts.length) {
                return tape.fails(ROOM);
            }
            int next = starts[lines];
            for (int w = 0; w <= MOST_WORDS && tape.kind == Tape.WORD; w++) {
                if (w == MOST_WORDS || next < 0 || next >= words.length) {
                    return tape.fails(ROOM);
                }
                words[next] = tape.packedWord();
                next++;
                tape.advance();
            }
            if (tape.kind == '+') {
                glued |= 1 << lines;
                tape.advance();
            }
            if (tape.kind != Tape.END && tape.kind != ';' && tape.kind != '/') {
                return tape.fails(SYNTAX);
            }
            lines++;
            starts[lines] = next;
            return true;
        }

        /** A copy that has no more room than its text needs. */
        Edition trimmed() {
            int wordCount = wordCount();
            Edition copy = new Edition(wordCount, lines);
            for (int w = 0; w < wordCount && w < words.length; w++) {
                copy.words[w] = words[w];
            }
            for (int line = 0; line <= lines && line < starts.length; line++) {
                copy.starts[line] = starts[line];
            }
            copy.lines = lines;
            copy.glued = glued;
            copy.opening = opening;
            return copy;
        }

        int wordCount() {
            return startOf(lines);
        }

        int stanzaCount() {
            return Integer.bitCount(opening);
        }

        int startOf(int line) {
            return line < 0 || line >= starts.length ? 0 : starts[line];
        }

        int wordsOf(int line) {
            return startOf(line + 1) - startOf(line);
        }

        long wordAt(int at) {
            return at < 0 || at >= words.length ? 0 : words[at];
        }

        boolean opensStanza(int line) {
            return hasBit(opening, line);
        }

        boolean mayBreakBehind(int line) {
            if (line < 0 || line + 1 >= lines || hasBit(glued, line)) {
                return false;
            }
            boolean twoAhead = !hasBit(opening, line);
            boolean twoBehind = line + 2 < lines && !hasBit(opening, line + 2);
            return hasBit(opening, line + 1) || twoAhead && twoBehind;
        }

        boolean isLaidOutFor(int page, int title) {
            return forPage == page && forTitle == title;
        }

        void beginLayout(int page, int title) {
            forPage = page;
            forTitle = title;
            pages = NONE;
            squares = NONE;
        }

        void putBreak(int i, int line) {
            if (i >= 0 && i < breaks.length) {
                breaks[i] = line;
            }
        }

        int breakNumber(int i) {
            return i < 0 || i >= pages - 1 || i >= breaks.length ? NONE : breaks[i];
        }

        int compareFirstLine(Edition other) {
            int common = Math.min(wordsOf(0), other.wordsOf(0));
            for (int w = 0; w < common; w++) {
                int compared = Long.compare(wordAt(w), other.wordAt(w));
                if (compared != 0) {
                    return compared;
                }
            }
            return Integer.compare(wordsOf(0), other.wordsOf(0));
        }
    }

    /** A poem with its editions. */
    private static final class Poem {
        static final int MOST_EDITIONS = 3;

        final int poet;
        final int year;
        final int holder;
        final int value;
        int translator = NONE;
        int hundredths = 0;
        int editionCount = 0;
        private final Edition[] editions = new Edition[MOST_EDITIONS];
        // Costs of laying two editions beside one another, each told once: 0 and 1, 0 and 2, 1 and 2.
        private final int[] costs = {NONE, NONE, NONE};

        Poem(int poet, int year, int holder, int value) {
            this.poet = poet;
            this.year = year;
            this.holder = holder;
            this.value = value;
        }

        Edition editionNumber(int e) {
            return e < 0 || e >= editionCount || e >= MOST_EDITIONS ? null : editions[e];
        }

        int addEdition(Edition edition) {
            if (editionCount < 0 || editionCount >= MOST_EDITIONS) {
                return FULL;
            }
            editions[editionCount] = edition;
            editionCount++;
            return editionCount - 1;
        }

        int costOf(int e, int f, Bench bench) {
            Edition one = editionNumber(e);
            Edition other = editionNumber(f);
            if (one == null || other == null) {
                return RANGE;
            }
            int pair = e + f - 1;
            if (e == f || pair < 0 || pair >= costs.length) {
                return 0;
            }
            if (costs[pair] == NONE) {
                costs[pair] = bench.costBeside(one, other);
            }
            return costs[pair];
        }
    }

    /** Rows, made once, on which editions are read, laid out and compared. */
    private static final class Bench {
        private static final int ENDS = Edition.MOST_LINES + 1;

        final Edition draft = new Edition(Edition.MOST_LINES * Edition.MOST_WORDS, Edition.MOST_LINES);
        // Of the pages from a line on: how many (0: no way is), the squares, the line behind the first page.
        private final int[] pagesFrom = new int[ENDS];
        private final int[] squaresFrom = new int[ENDS];
        private final int[] nextFrom = new int[ENDS];
        private final int[] lineCosts = new int[ENDS];
        private final int[] wordCosts = new int[Edition.MOST_WORDS + 1];

        void layOut(Edition edition, Rules rules) {
            int page = rules.valueOf(Rules.PAGE);
            int title = rules.valueOf(Rules.TITLE);
            if (edition.isLaidOutFor(page, title)) {
                return;
            }
            edition.beginLayout(page, title);
            int lines = Math.min(edition.lines, Edition.MOST_LINES);
            for (int line = lines - 1; line >= 0; line--) {
                weighPagesFrom(edition, line, line == 0 ? page - title : page);
            }
            if (lines < 1 || pagesFrom[0] == 0) {
                return;
            }
            edition.pages = pagesFrom[0];
            edition.squares = squaresFrom[0];
            int line = 0;
            for (int i = 0; i < edition.pages - 1 && line >= 0 && line < lines; i++) {
                line = nextFrom[line];
                edition.putBreak(i, line - 1);
            }
        }

        /** The best pages from a line on, when those from each later line on are known. */
        private void weighPagesFrom(Edition edition, int first, int room) {
            int lines = Math.min(edition.lines, Edition.MOST_LINES);
            pagesFrom[first] = 0;
            squaresFrom[first] = 0;
            nextFrom[first] = lines;
            int used = 0;
            for (int last = first; last < lines; last++) {
                used += last > first && edition.opensStanza(last) ? 2 : 1;
                if (used > room) {
                    return;
                }
                if (last == lines - 1) {
                    pagesFrom[first] = 1;
                    squaresFrom[first] = 0;
                    nextFrom[first] = lines;
                } else if (edition.mayBreakBehind(last) && pagesFrom[last + 1] > 0) {
                    weighBreak(first, last, (room - used) * (room - used));
                }
            }
        }

        private void weighBreak(int first, int last, int square) {
            int pages = pagesFrom[last + 1] + 1;
            int squares = squaresFrom[last + 1] + square;
            // Breaks come here in rising order, so of alike ones the first stays.
            if (pagesFrom[first] == 0 || pages < pagesFrom[first]
                    || pages == pagesFrom[first] && squares < squaresFrom[first]) {
                pagesFrom[first] = pages;
                squaresFrom[first] = squares;
                nextFrom[first] = last + 1;
            }
        }

        int costBeside(Edition one, Edition other) {
            int ones = Math.min(one.lines, Edition.MOST_LINES);
            int others = Math.min(other.lines, Edition.MOST_LINES);
            lineCosts[0] = 0;
            for (int j = 0; j < others; j++) {
                lineCosts[j + 1] = lineCosts[j] + other.wordsOf(j);
            }
            for (int i = 0; i < ones; i++) {
                int leftOut = one.wordsOf(i);
                int corner = lineCosts[0];
                lineCosts[0] += leftOut;
                for (int j = 0; j < others; j++) {
                    int made = corner + costOfLine(one, i, other, j);
                    corner = lineCosts[j + 1];
                    int shifted = Math.min(corner + leftOut, lineCosts[j] + other.wordsOf(j));
                    lineCosts[j + 1] = Math.min(made, shifted);
                }
            }
            return lineCosts[others];
        }

        private int costOfLine(Edition one, int i, Edition other, int j) {
            int ones = Math.min(one.wordsOf(i), Edition.MOST_WORDS);
            int others = Math.min(other.wordsOf(j), Edition.MOST_WORDS);
            for (int v = 0; v <= others; v++) {
                wordCosts[v] = v;
            }
            int oneStart = one.startOf(i);
            int otherStart = other.startOf(j);
            for (int w = 0; w < ones; w++) {
                long word = one.wordAt(oneStart + w);
                int corner = wordCosts[0];
                wordCosts[0]++;
                for (int v = 0; v < others; v++) {
                    int made = word == other.wordAt(otherStart + v) ? corner : corner + 1;
                    corner = wordCosts[v + 1];
                    wordCosts[v + 1] = Math.min(made, Math.min(corner, wordCosts[v]) + 1);
                }
            }
            return others < 0 ? ones : wordCosts[others];
        }
    }

    /** What an heir or a firm grants for a poem. */
    private static final class Leave {
        private static final int BY_LINE = 0;
        private static final int BY_PAGE = 1;
        private static final int IN_ALL = 2;
        private static final int MOST_FEE = 9999;
        private static final int MOST_CREDIT = 6;
        private static final int LANDS_CLAUSE = 0;
        private static final int UNTIL_CLAUSE = 1;
        private static final int FEE_CLAUSE = 2;
        private static final int APART_CLAUSE = 3;
        private static final int EDITION_CLAUSE = 4;
        private static final int CREDIT_CLAUSE = 5;
        private static final int CLAUSES = 6;

        final int poem;
        final int toldOn;
        private int lands = 0;
        private int until = LAST_DAY;
        private int pence = 0;
        private int per = IN_ALL;
        int apart = 0;
        int edition = NONE;
        private int credit = 0;
        int goneFrom = NONE;
        int goneToldOn = NONE;

        Leave(int poem, int toldOn) {
            this.poem = poem;
            this.toldOn = toldOn;
        }

        int told(int what) {
            switch (what) {
                case 0: return poem;
                case 1: return lands;
                case 2: return until;
                case 3: return pence;
                case 4: return per;
                case 5: return apart;
                case 6: return edition;
                case 7: return credit;
                case 8: return toldOn;
                default: return NO_SUCH;
            }
        }

        int feeFor(int lines, int pages) {
            if (per == BY_LINE) {
                return pence * lines;
            }
            return per == BY_PAGE ? pence * pages : pence;
        }

        /** The lands, as bits, that it grants on a day. */
        int grantedLands(int day, int known) {
            boolean isGone = goneFrom != NONE && goneToldOn <= known && goneFrom <= day;
            return isGone || until < day ? 0 : lands;
        }

        boolean readFrom(Tape tape) {
            int told = 0;
            tape.begin();
            for (int n = 0; n <= CLAUSES; n++) {
                tape.advance();
                if (tape.kind == Tape.END) {
                    return true;
                }
                int clause = clauseNamed(tape);
                if (clause == NONE) {
                    return tape.fails(SYNTAX);
                }
                if (hasBit(told, clause)) {
                    return tape.fails(TWICE);
                }
                told |= 1 << clause;
                if (!readClause(clause, tape)) {
                    return false;
                }
            }
            return false;
        }

        private static int clauseNamed(Tape tape) {
            if (tape.says("lands")) {
                return LANDS_CLAUSE;
            } else if (tape.says("until")) {
                return UNTIL_CLAUSE;
            } else if (tape.says("fee")) {
                return FEE_CLAUSE;
            } else if (tape.says("apart")) {
                return APART_CLAUSE;
            } else if (tape.says("edition")) {
                return EDITION_CLAUSE;
            }
            return tape.says("credit") ? CREDIT_CLAUSE : NONE;
        }

        private boolean readClause(int clause, Tape tape) {
            switch (clause) {
                case LANDS_CLAUSE:
                    lands = readBits(tape, LANDS - 1);
                    return lands != NONE;
                case UNTIL_CLAUSE:
                    return readUntil(tape);
                case FEE_CLAUSE:
                    return readFee(tape);
                case APART_CLAUSE:
                    apart = readBits(tape, POETS - 1);
                    return apart != NONE;
                case EDITION_CLAUSE:
                    return readEditionNumber(tape);
                default:
                    return readCredit(tape);
            }
        }

        /** The numbers of a clause's row as bits, or NONE with a fault. */
        private static int readBits(Tape tape, int greatest) {
            int bits = 0;
            for (int n = 0; n <= greatest + 1; n++) {
                tape.advance();
                if (n > 0 && tape.kind == ';') {
                    return bits;
                }
                if (!addBit(tape, bits, greatest)) {
                    return NONE;
                }
                bits |= 1 << tape.number();
            }
            return NONE;
        }

        private static boolean addBit(Tape tape, int bits, int greatest) {
            if (tape.kind != Tape.NUMBER) {
                return tape.fails(SYNTAX);
            }
            if (tape.number() > greatest) {
                return tape.fails(BOUNDS);
            }
            return !hasBit(bits, tape.number()) || tape.fails(TWICE);
        }

        private boolean readUntil(Tape tape) {
            if (!tape.nextIsNumber(0, LAST_DAY)) {
                return false;
            }
            until = tape.number();
            return tape.nextEndsClause();
        }

        private boolean readFee(Tape tape) {
            if (!tape.nextIsNumber(0, MOST_FEE)) {
                return false;
            }
            pence = tape.number();
            tape.advance();
            if (tape.says("line")) {
                per = BY_LINE;
            } else if (tape.says("page")) {
                per = BY_PAGE;
            } else if (tape.says("all")) {
                per = IN_ALL;
            } else {
                return tape.fails(SYNTAX);
            }
            return tape.nextEndsClause();
        }

        private boolean readEditionNumber(Tape tape) {
            if (!tape.nextIsNumber(0, Poem.MOST_EDITIONS - 1)) {
                return false;
            }
            edition = tape.number();
            return tape.nextEndsClause();
        }

        private boolean readCredit(Tape tape) {
            for (int w = 0; w <= MOST_CREDIT; w++) {
                tape.advance();
                if (w > 0 && tape.kind == ';') {
                    credit = w;
                    return true;
                }
                if (tape.kind != Tape.WORD) {
                    return tape.fails(SYNTAX);
                }
            }
            return tape.fails(ROOM);
        }
    }

    /** Leaves and deaths in the order in which they were told. */
    private static final class Rights {
        static final int MOST_LEAVES = 80;
        private static final int MOST_DEATHS = 60;
        private static final int DAYS_OF_YEAR = 365;

        private final Leave[] leaves = new Leave[MOST_LEAVES];
        int leaveCount = 0;
        private final int[] deadPoets = new int[MOST_DEATHS];
        private final int[] deadFrom = new int[MOST_DEATHS];
        private final int[] deadToldOn = new int[MOST_DEATHS];
        private int deathCount = 0;

        Leave leaveAt(int k) {
            return k < 0 || k >= leaveCount ? null : leaves[k];
        }

        int addLeave(Leave leave) {
            if (leaveCount < 0 || leaveCount >= MOST_LEAVES) {
                return FULL;
            }
            leaves[leaveCount] = leave;
            leaveCount++;
            return leaveCount - 1;
        }

        int addDeath(int poet, int day, int today) {
            if (deathCount < 0 || deathCount >= MOST_DEATHS) {
                return FULL;
            }
            deadPoets[deathCount] = poet;
            deadFrom[deathCount] = day;
            deadToldOn[deathCount] = today;
            deathCount++;
            return deathCount;
        }

        int latestLeave(int p, int known) {
            for (int k = leaveCount - 1; k >= 0; k--) {
                if (leaves[k].poem == p && leaves[k].toldOn <= known) {
                    return k;
                }
            }
            return NONE;
        }

        private int deathOf(int poet, int known) {
            for (int k = deathCount - 1; k >= 0; k--) {
                if (deadPoets[k] == poet && deadToldOn[k] <= known) {
                    return deadFrom[k];
                }
            }
            return NONE;
        }

        /** The lands, as bits, in which all who wrote the poem have been dead for long enough. */
        int freeLands(Poem poem, Rules rules, int day, int known) {
            int death = deathOf(poem.poet, known);
            if (poem.translator != NONE && death != NONE) {
                int other = deathOf(poem.translator, known);
                death = other == NONE ? NONE : Math.max(death, other);
            }
            int lands = 0;
            for (int land = 0; land < LANDS && death != NONE; land++) {
                if (day >= death + DAYS_OF_YEAR * rules.yearsOf(land)) {
                    lands |= 1 << land;
                }
            }
            return lands;
        }

        /** The lands, as bits, that the poem's leave grants on a day. */
        int grantedLands(int p, int day, int known) {
            Leave leave = leaveAt(latestLeave(p, known));
            return leave == null ? 0 : leave.grantedLands(day, known);
        }
    }

    /** A poem that may come into the book, and what was seen of it when it was looked at last. */
    private static final class Candidate {
        final int number;
        final Poem poem;
        boolean isAllowed = false;
        int printed = NONE;
        Edition edition = null;
        int pages = NONE;
        int fee = 0;
        int apart = 0;

        Candidate(int number, Poem poem) {
            this.number = number;
            this.poem = poem;
        }

        /** Whether two can stand next to each other; anybody can stand at an end of the row. */
        static boolean canStand(Candidate one, Candidate other) {
            if (one == null || other == null) {
                return true;
            }
            return one.poem.poet != other.poem.poet
                    && !hasBit(one.apart, other.poem.poet) && !hasBit(other.apart, one.poem.poet);
        }

        /** The years back from one to the next, or NONE if they can't stand so. */
        static int stepBack(Candidate ahead, Candidate behind) {
            if (ahead == null || behind == null || !canStand(ahead, behind)) {
                return NONE;
            }
            return Math.max(0, ahead.poem.year - behind.poem.year);
        }
    }

    /** Finds the best choice, by taking or leaving one candidate after the other. */
    private static final class Chooser {
        int chosenSet = 0;
        private final int[] taken = new int[POETS];
        private final int[] worthFrom = new int[MOST_CANDIDATES + 1];
        private Candidate[] pool = new Candidate[0];
        private int poolSize = 0;
        private int most = 0;
        private int pageRoom = 0;
        private int feeRoom = 0;
        private int bestWorth = NONE;
        private int bestFee = 0;
        private int bestPages = 0;
        private int bestSet = 0;

        private void prepare(Candidate[] candidates, int size, Rules rules) {
            pool = candidates;
            poolSize = Math.min(size, Math.min(candidates.length, MOST_CANDIDATES));
            most = rules.valueOf(Rules.MOST);
            pageRoom = rules.valueOf(Rules.SHEETS) * rules.valueOf(Rules.SHEET)
                    - rules.valueOf(Rules.FRONT);
            feeRoom = rules.valueOf(Rules.SUM);
            Arrays.fill(taken, 0);
        }

        /** The worth of the best choice, or NONE if there is none. */
        int findBest(Candidate[] candidates, int size, Rules rules) {
            prepare(candidates, size, rules);
            bestWorth = NONE;
            if (pageRoom < 0) {
                return NONE;
            }
            worthFrom[poolSize] = 0;
            for (int c = poolSize - 1; c >= 0; c--) {
                worthFrom[c] = worthFrom[c + 1] + (pool[c].isAllowed ? pool[c].poem.value : 0);
            }
            search(0, 0, 0, 0, 0);
            chosenSet = bestSet;
            return bestWorth;
        }

        private boolean isBetter(int worth, int fee, int pages, int set) {
            if (worth != bestWorth) {
                return worth > bestWorth;
            }
            if (fee != bestFee) {
                return fee < bestFee;
            }
            return pages != bestPages ? pages < bestPages : set < bestSet;
        }

        private void search(int c, int worth, int fee, int pages, int set) {
            // Fees, pages and bits only grow, so no set from here on beats this bound.
            if (c > poolSize || !isBetter(worth + worthFrom[c], fee, pages, set)) {
                return;
            }
            if (c == poolSize) {
                bestWorth = worth;
                bestFee = fee;
                bestPages = pages;
                bestSet = set;
                return;
            }
            Candidate next = pool[c];
            if (canTake(next, fee, pages)) {
                taken[next.poem.poet]++;
                search(c + 1, worth + next.poem.value, fee + next.fee, pages + next.pages, set | 1 << c);
                taken[next.poem.poet]--;
            }
            search(c + 1, worth, fee, pages, set);
        }

        private boolean canTake(Candidate next, int fee, int pages) {
            return next.isAllowed && taken[next.poem.poet] < most
                    && pages + next.pages <= pageRoom && fee + next.fee <= feeRoom;
        }

        /** The worth of a set, or NONE if it is no choice. */
        int worthOf(int set, Candidate[] candidates, int size, Rules rules) {
            prepare(candidates, size, rules);
            if (pageRoom < 0) {
                return NONE;
            }
            int worth = 0;
            int fee = 0;
            int pages = 0;
            for (int c = 0; c < poolSize; c++) {
                if (hasBit(set, c)) {
                    Candidate next = pool[c];
                    if (!canTake(next, fee, pages)) {
                        return NONE;
                    }
                    taken[next.poem.poet]++;
                    worth += next.poem.value;
                    fee += next.fee;
                    pages += next.pages;
                }
            }
            return worth;
        }
    }

    /** Finds the best order of a set: the least steps back of each part of it, by who begins. */
    private static final class Orderer {
        private static final int FAR = 1000000;

        final int[] found = new int[MOST_CANDIDATES];
        private final int[] members = new int[MOST_ORDERED];
        private final int[] links = new int[MOST_ORDERED * MOST_ORDERED];
        private final int[] least = new int[(1 << MOST_ORDERED) * MOST_ORDERED];
        private int size = 0;

        /** The steps back of the best row, which is left in found, or NONE. */
        int findBest(int set, Candidate[] candidates, int count) {
            prepare(set, candidates, count);
            int whole = (1 << size) - 1;
            for (int part = 1; part <= whole; part++) {
                for (int first = 0; first < size; first++) {
                    if (hasBit(part, first)) {
                        least[part * MOST_ORDERED + first] = leastBehind(part & ~(1 << first), first);
                    }
                }
            }
            int steps = FAR;
            for (int first = 0; first < size; first++) {
                steps = Math.min(steps, least[whole * MOST_ORDERED + first]);
            }
            if (steps >= FAR) {
                return NONE;
            }
            trace(whole, steps);
            return steps;
        }

        private void prepare(int set, Candidate[] candidates, int count) {
            size = 0;
            for (int c = 0; c < count && c < MOST_CANDIDATES && size < MOST_ORDERED; c++) {
                if (hasBit(set, c)) {
                    members[size] = c;
                    size++;
                }
            }
            for (int a = 0; a < size; a++) {
                for (int b = 0; b < size; b++) {
                    int step = Candidate.stepBack(candidates[members[a]], candidates[members[b]]);
                    links[a * MOST_ORDERED + b] = step == NONE ? FAR : step;
                }
            }
        }

        /** The least steps back when the rest stands behind one, who is no part of it. */
        private int leastBehind(int rest, int one) {
            if (rest == 0) {
                return 0;
            }
            int best = FAR;
            // Nothing is less than 0; this loop runs most often of all.
            for (int next = 0; next < size && best > 0; next++) {
                if ((rest >>> next & 1) != 0) {
                    int steps = stepsThrough(rest, one, next);
                    best = steps < best ? steps : best;
                }
            }
            return best;
        }

        private int stepsThrough(int rest, int one, int next) {
            return links[one * MOST_ORDERED + next] + least[rest * MOST_ORDERED + next];
        }

        /** Lays the least of the best rows into found. */
        private void trace(int whole, int steps) {
            int rest = whole;
            int last = NONE;
            int due = steps;
            for (int i = 0; i < size; i++) {
                int next = firstWith(rest, last, due);
                if (next == NONE) {
                    return;
                }
                found[i] = members[next];
                due = least[rest * MOST_ORDERED + next];
                rest &= ~(1 << next);
                last = next;
            }
        }

        private int firstWith(int rest, int last, int due) {
            for (int next = 0; next < size; next++) {
                if (hasBit(rest, next)) {
                    int steps = last == NONE
                            ? least[rest * MOST_ORDERED + next] : stepsThrough(rest, last, next);
                    if (steps == due) {
                        return next;
                    }
                }
            }
            return NONE;
        }

        /** The steps back of the row in found, or NONE if two can't stand beside each other. */
        int stepsOfFound(int length, Candidate[] candidates, int count) {
            int steps = 0;
            for (int i = 1; i < length && i < found.length; i++) {
                if (found[i - 1] >= count || found[i] >= count) {
                    return NONE;
                }
                int step = Candidate.stepBack(candidates[found[i - 1]], candidates[found[i]]);
                if (step == NONE) {
                    return NONE;
                }
                steps += step;
            }
            return steps;
        }
    }

    /** Finds what keeps the pages where they are when one of the row is withdrawn. */
    private static final class Withdrawal {
        private static final int MOST_EMPTY = 3;

        boolean isKnown = false;
        private int toldFirst = NONE;
        private int toldSecond = NONE;
        private int toldEmpty = 0;
        private Candidate ahead = null;
        private Candidate behind = null;
        private int pagesGone = 0;
        private int followers = 0;
        private int inRow = 0;
        private int bestMoved = 0;
        private int bestEmpty = 0;
        private int bestWorth = NONE;
        private int bestFirst = NONE;
        private int bestSecond = NONE;

        void prepare(Candidate[] candidates, int[] row, int rowLength, int i) {
            ahead = i > 0 ? candidates[row[i - 1]] : null;
            behind = i + 1 < rowLength ? candidates[row[i + 1]] : null;
            pagesGone = candidates[row[i]].pages;
            followers = rowLength - 1 - i;
            inRow = 0;
            for (int place = 0; place < rowLength; place++) {
                inRow |= 1 << row[place];
            }
        }

        /** How many are moved by the best way, or NONE if there is no way. */
        int findBest(Candidate[] candidates, int count) {
            bestMoved = NONE;
            // Ways come in the order of their rows, so of alike ones the first stays.
            weigh(null, NONE, null, NONE);
            for (int a = 0; a < count; a++) {
                if (canCome(candidates[a], a) && Candidate.canStand(ahead, candidates[a])) {
                    weigh(candidates[a], a, null, NONE);
                    for (int b = 0; b < count; b++) {
                        if (b != a && canCome(candidates[b], b)) {
                            weigh(candidates[a], a, candidates[b], b);
                        }
                    }
                }
            }
            if (bestMoved != NONE) {
                isKnown = true;
                toldFirst = bestFirst;
                toldSecond = bestSecond;
                toldEmpty = bestEmpty;
            }
            return bestMoved;
        }

        private boolean canCome(Candidate candidate, int c) {
            return candidate.isAllowed && !hasBit(inRow, c);
        }

        private void weigh(Candidate first, int a, Candidate second, int b) {
            if (!fits(first, second)) {
                return;
            }
            int pages = 0;
            int worth = 0;
            if (first != null) {
                pages += first.pages;
                worth += first.poem.value;
            }
            if (second != null) {
                pages += second.pages;
                worth += second.poem.value;
            }
            for (int empty = 0; empty <= MOST_EMPTY; empty++) {
                int moved = pages + empty == pagesGone ? 0 : followers;
                if (isBetter(moved, empty, worth)) {
                    bestMoved = moved;
                    bestEmpty = empty;
                    bestWorth = worth;
                    bestFirst = a;
                    bestSecond = b;
                }
            }
        }

        private boolean fits(Candidate first, Candidate second) {
            if (first == null) {
                return Candidate.canStand(ahead, behind);
            }
            if (second == null) {
                return Candidate.canStand(ahead, first) && Candidate.canStand(first, behind);
            }
            return Candidate.canStand(ahead, first) && Candidate.canStand(first, second)
                    && Candidate.canStand(second, behind);
        }

        private boolean isBetter(int moved, int empty, int worth) {
            if (bestMoved == NONE || moved != bestMoved) {
                return bestMoved == NONE || moved < bestMoved;
            }
            return empty != bestEmpty ? empty < bestEmpty : worth > bestWorth;
        }

        int told(int what) {
            if (!isKnown) {
                return NONE;
            }
            switch (what) {
                case 0: return (toldFirst == NONE ? 0 : 1) + (toldSecond == NONE ? 0 : 1);
                case 1: return toldFirst;
                case 2: return toldSecond;
                case 3: return toldEmpty;
                default: return NONE;
            }
        }
    }
}
