import java.util.Arrays;

/**
 * A desk for terms that lie above one another, genes that are noted of them, and a report of the terms that
 * stand out among the genes of a study. The document is ../shared/DOC.md.
 */
public final class TermDesk {
    public static final int NONE = -1;

    private static final int MOST_BYTES = 40000;
    private static final int BYTES_FED = 20;
    private static final int LINE_FEED = 10;
    private static final int BLANK = 32;

    private static final int MOST_TERMS = 200;
    private static final int MOST_GENES = 200;
    private static final int MOST_TERM_NAMES = 300;
    private static final int MOST_LINKS = 600;
    private static final int MOST_NOTES = 2000;
    private static final int MOST_LETTERS = 12;
    private static final int LETTERS_IN_HALF = 6;

    private static final int NO_FAULT = 0;
    private static final int FAULT_WORD = 1;
    private static final int FAULT_NAME = 2;
    private static final int FAULT_UNKNOWN = 3;
    private static final int FAULT_TAKEN = 4;
    private static final int FAULT_RING = 5;
    private static final int FAULT_OLD = 6;
    private static final int FAULT_MANY = 7;

    /** What a word behind the first one of a line has to be. */
    private static final int NO_WORD = 0;
    private static final int NEW_TERM_NAME = 1;
    private static final int NEW_GENE_NAME = 2;
    private static final int ANY_TERM = 3;
    private static final int LIVING_TERM = 4;
    private static final int PARENT_TERM = 5;
    private static final int KNOWN_GENE = 6;

    private static final int VALUES = 4;
    private static final int CHANCE = 0;
    private static final int TIMES_ALL = 1;
    private static final int STEP_DOWN = 2;
    private static final int STEP_UP = 3;

    private static final int MOST_PLACES = 40;
    private static final int MOST_PRINTED = 160;

    private static final LineKind[] LINE_KINDS = LineKind.values();

    private final Clerk clerk;
    private final Text text;
    private final Board board;
    private final Ranking ranking;
    private final Strip strip;
    private int doneFault;
    private int donePlace;
    /** Reports between two runs are of the same candidates: their values are reckoned once. */
    private boolean ranked;

    public TermDesk() {
        clerk = new Clerk();
        text = clerk.text;
        board = clerk.board;
        ranking = new Ranking();
        strip = new Strip();
        doneFault = NO_FAULT;
        donePlace = NONE;
        ranked = false;
    }

    public int feed(int a, int b, int c, int d, int e) throws IllegalStateException {
        if (text.length + BYTES_FED > MOST_BYTES) {
            throw new IllegalStateException("the text would have more than 40000 bytes");
        }
        text.addFour(a);
        text.addFour(b);
        text.addFour(c);
        text.addFour(d);
        text.addFour(e);
        return text.length;
    }

    public int trim(int n) throws IllegalArgumentException {
        if (n < 0 || n > BYTES_FED || n > text.length) {
            throw new IllegalArgumentException("not 0 .. 20 bytes of the text");
        }
        text.length -= n;
        return text.length;
    }

    public int run() {
        int done = clerk.doLines();
        doneFault = clerk.faultNumber;
        donePlace = clerk.faultPlace;
        text.length = 0;
        ranked = false;
        return done;
    }

    public int fault(int what) throws IllegalArgumentException {
        switch (what) {
            case 0: return doneFault;
            case 1: return donePlace;
            default: throw new IllegalArgumentException("what is not 0 or 1");
        }
    }

    public int about(int what) throws IllegalArgumentException {
        switch (what) {
            case 0: return board.terms;
            case 1: return board.genes();
            case 2: return board.studied();
            case 3: return board.candidates();
            case 4: return ranking.rows;
            case 5: return board.links;
            case 6: return board.notes;
            case 7: return board.termNames.count;
            default: throw new IllegalArgumentException("what is not 0 .. 7");
        }
    }

    public int term(int term, int what) throws IndexOutOfBoundsException, IllegalArgumentException {
        if (!board.hasTerm(term)) {
            throw new IndexOutOfBoundsException("no such term");
        }
        switch (what) {
            case 0: return board.parents.count(term);
            case 1: return board.above.count(term);
            case 2: return board.countBelow(term);
            case 3: return board.genesAt(term);
            case 4: return board.studiedAt(term);
            case 5: return board.isOld(term) ? 1 : 0;
            case 6: return board.longestWayUp(term);
            default: throw new IllegalArgumentException("what is not 0 .. 6");
        }
    }

    public int letter(int number, boolean gene, int i) throws IndexOutOfBoundsException {
        if (gene ? !board.hasGene(number) : !board.hasTerm(number)) {
            throw new IndexOutOfBoundsException("no such term or gene");
        }
        return gene ? board.geneNames.letterOf(number, i) : board.termNames.letterOf(number, i);
    }

    public boolean isAbove(int a, int b) throws IndexOutOfBoundsException {
        if (!board.hasTerm(a) || !board.hasTerm(b)) {
            throw new IndexOutOfBoundsException("no such term");
        }
        return board.above.has(b, a);
    }

    public boolean isAt(int gene, int term) throws IndexOutOfBoundsException {
        if (!board.hasGene(gene) || !board.hasTerm(term)) {
            throw new IndexOutOfBoundsException("no such gene or term");
        }
        return board.at.has(term, gene);
    }

    public int report(int value, int a, int b) throws IllegalArgumentException {
        if (value < 0 || value >= VALUES || a < 0 || b < 1) {
            throw new IllegalArgumentException("no such value, or no such cut-off");
        }
        if (!ranked) {
            ranking.rank(board);
            ranked = true;
        }
        ranking.chooseRows(value, a, b);
        return ranking.rows;
    }

    public int row(int i, int what) throws IndexOutOfBoundsException, IllegalArgumentException {
        if (!ranking.hasRow(i)) {
            throw new IndexOutOfBoundsException("no such row");
        }
        int candidate = ranking.rowOrder[i];
        switch (what) {
            case 0: return ranking.termOf[candidate];
            case 1: return ranking.hits[candidate];
            case 2: return ranking.studied;
            case 3: return ranking.sizes[candidate];
            case 4: return ranking.genes;
            default: throw new IllegalArgumentException("what is not 0 .. 4");
        }
    }

    public int print(int i, int value, int d) throws IndexOutOfBoundsException, IllegalArgumentException {
        if (!ranking.hasRow(i)) {
            throw new IndexOutOfBoundsException("no such row");
        }
        if (value < 0 || value >= VALUES || d < NONE || d > MOST_PLACES) {
            throw new IllegalArgumentException("no such value, or no such number of places");
        }
        int slot = Ranking.slot(value, ranking.rowOrder[i]);
        strip.take(ranking.upper[slot], ranking.all, ranking.divisor[slot]);
        if (d == NONE) {
            strip.writeJust();
        } else {
            strip.writeRounded(d);
        }
        return strip.length;
    }

    public int character(int i) {
        return i >= 0 && i < strip.length ? strip.characters[i] : NONE;
    }

    public void clear() {
        text.length = 0;
        board.empty();
        ranking.rows = 0;
        strip.length = 0;
        doneFault = NO_FAULT;
        donePlace = NONE;
        ranked = false;
    }

    /** The kinds of lines: the first word, and what the words behind it have to be. */
    private enum LineKind {
        TERM("term", NEW_TERM_NAME, NO_WORD),
        ALIAS("alias", NEW_TERM_NAME, LIVING_TERM),
        ISA("isa", LIVING_TERM, PARENT_TERM),
        PART("part", LIVING_TERM, PARENT_TERM),
        OLD("old", ANY_TERM, NO_WORD),
        GENE("gene", NEW_GENE_NAME, NO_WORD),
        NOTE("note", KNOWN_GENE, LIVING_TERM),
        NOT("not", KNOWN_GENE, LIVING_TERM),
        STUDY("study", KNOWN_GENE, NO_WORD);

        private final String word;
        private final int second;
        private final int third;

        LineKind(String word, int second, int third) {
            this.word = word;
            this.second = second;
            this.third = third;
        }
    }

    /** The text's bytes, with one line and one word of it open for reading. */
    private static final class Text {
        private final byte[] bytes = new byte[MOST_BYTES];
        private int length = 0;
        private int lineFrom = 0;
        private int lineEnd = 0;
        private int wordFrom = 0;
        private int wordEnd = 0;

        /** The caller has seen that there is room. */
        private void addFour(int four) {
            for (int shift = 24; shift >= 0; shift -= 8) {
                bytes[length] = (byte) (four >> shift);
                length++;
            }
        }

        private void openLine(int from) {
            lineFrom = from;
            lineEnd = from;
            while (lineEnd < length && bytes[lineEnd] != LINE_FEED) {
                lineEnd++;
            }
            // as if a blank stood before the line, so that its first word is read like the others
            wordFrom = from;
            wordEnd = from - 1;
        }

        /** Without a word more the place is the line's end, where it is missing. */
        private boolean openWord() {
            if (wordEnd >= lineEnd) {
                wordFrom = lineEnd;
                return false;
            }
            wordFrom = wordEnd + 1;
            wordEnd = wordFrom;
            while (wordEnd < lineEnd && bytes[wordEnd] != BLANK) {
                wordEnd++;
            }
            return true;
        }

        private int wordLength() {
            return wordEnd - wordFrom;
        }

        private boolean wordIs(String other) {
            if (other.length() != wordLength()) {
                return false;
            }
            for (int i = 0; i < other.length(); i++) {
                if (bytes[wordFrom + i] != other.charAt(i)) {
                    return false;
                }
            }
            return true;
        }

        private boolean wordIsName() {
            if (wordLength() < 1 || wordLength() > MOST_LETTERS) {
                return false;
            }
            for (int i = wordFrom; i < wordEnd; i++) {
                if (!isNameLetter(bytes[i])) {
                    return false;
                }
            }
            return true;
        }

        private static boolean isNameLetter(int c) {
            return c >= 'a' && c <= 'z' || c >= 'A' && c <= 'Z' || c >= '0' && c <= '9' || c == '_' || c == ':';
        }

        /** Six letters of the word from letter number first on, 0 where there is none, in one number. */
        private long wordHalf(int first) {
            long half = 0;
            for (int i = first; i < first + LETTERS_IN_HALF; i++) {
                half = half << 8 | (i < wordLength() ? bytes[wordFrom + i] : 0);
            }
            return half;
        }
    }

    /** Names of one kind, each in two halves of six letters, and whose they are. */
    private static final class NameList {
        private final long[] front;
        private final long[] back;
        private final int[] owner;
        private int count = 0;

        private NameList(int most) {
            front = new long[most];
            back = new long[most];
            owner = new int[most];
        }

        private boolean isFull() {
            return count >= owner.length;
        }

        /** The caller has seen that there is room. */
        private void add(long nameFront, long nameBack, int number) {
            front[count] = nameFront;
            back[count] = nameBack;
            owner[count] = number;
            count++;
        }

        private int ownerOf(long nameFront, long nameBack) {
            for (int i = 0; i < count; i++) {
                if (front[i] == nameFront && back[i] == nameBack) {
                    return owner[i];
                }
            }
            return NONE;
        }

        private int letterOf(int number, int i) {
            if (i < 0 || i >= MOST_LETTERS) {
                return NONE;
            }
            for (int name = 0; name < count; name++) {
                if (owner[name] == number) {
                    return letterIn(i < LETTERS_IN_HALF ? front[name] : back[name], i % LETTERS_IN_HALF);
                }
            }
            return NONE;
        }

        private static int letterIn(long half, int i) {
            int letter = (int) (half >> 8 * (LETTERS_IN_HALF - 1 - i)) & 255;
            return letter == 0 ? NONE : letter;
        }
    }

    /** Rows of 256 bits: sets of terms or genes. */
    private static final class Grid {
        private static final int LONGS = 4;
        private final long[] bits;

        private Grid(int rows) {
            bits = new long[rows * LONGS];
        }

        private boolean has(int row, int i) {
            return (bits[row * LONGS + (i >> 6)] >> (i & 63) & 1) != 0;
        }

        private void put(int row, int i) {
            bits[row * LONGS + (i >> 6)] |= 1L << (i & 63);
        }

        private void join(int row, Grid other, int otherRow) {
            for (int i = 0; i < LONGS; i++) {
                bits[row * LONGS + i] |= other.bits[otherRow * LONGS + i];
            }
        }

        private int count(int row) {
            return countShared(row, this, row);
        }

        private int countShared(int row, Grid other, int otherRow) {
            int shared = 0;
            for (int i = 0; i < LONGS; i++) {
                shared += Long.bitCount(bits[row * LONGS + i] & other.bits[otherRow * LONGS + i]);
            }
            return shared;
        }

        private void emptyRow(int row) {
            for (int i = 0; i < LONGS; i++) {
                bits[row * LONGS + i] = 0;
            }
        }

        private void empty() {
            Arrays.fill(bits, 0);
        }
    }

    /** Terms, genes, links, notes and the study. What is above and at a term is kept up with every link and note. */
    private static final class Board {
        private final NameList termNames = new NameList(MOST_TERM_NAMES);
        private final NameList geneNames = new NameList(MOST_GENES);
        private final Grid parents = new Grid(MOST_TERMS);
        private final Grid above = new Grid(MOST_TERMS);
        private final Grid noted = new Grid(MOST_TERMS);
        private final Grid at = new Grid(MOST_TERMS);
        private final Grid old = new Grid(1);
        private final Grid study = new Grid(1);
        private final Grid steps = new Grid(2);
        private int terms = 0;
        private int links = 0;
        private int notes = 0;

        private int genes() {
            return geneNames.count;
        }

        private boolean hasTerm(int term) {
            return term >= 0 && term < terms;
        }

        private boolean hasGene(int gene) {
            return gene >= 0 && gene < genes();
        }

        private boolean isOld(int term) {
            return old.has(0, term);
        }

        private int studied() {
            return study.count(0);
        }

        private int genesAt(int term) {
            return at.count(term);
        }

        private int studiedAt(int term) {
            return at.countShared(term, study, 0);
        }

        private boolean isCandidate(int term) {
            return !isOld(term) && studiedAt(term) > 0;
        }

        private int candidates() {
            int count = 0;
            for (int term = 0; term < terms; term++) {
                if (isCandidate(term)) {
                    count++;
                }
            }
            return count;
        }

        private int countBelow(int term) {
            int count = 0;
            for (int other = 0; other < terms; other++) {
                if (above.has(other, term)) {
                    count++;
                }
            }
            return count;
        }

        /** The terms that just so many links up reach, for one link more each time, until there are none. */
        private int longestWayUp(int term) {
            steps.empty();
            steps.put(0, term);
            for (int way = 1; way < MOST_TERMS; way++) {
                int from = (way - 1) % 2;
                int to = way % 2;
                steps.emptyRow(to);
                for (int other = 0; other < terms; other++) {
                    if (steps.has(from, other)) {
                        steps.join(to, parents, other);
                    }
                }
                if (steps.count(to) == 0) {
                    return way - 1;
                }
            }
            return MOST_TERMS - 1;
        }

        private boolean isSameOrAbove(int upper, int lower) {
            return upper == lower || above.has(lower, upper);
        }

        private boolean canAddTerm() {
            return terms < MOST_TERMS && !termNames.isFull();
        }

        private void addTerm(long front, long back) {
            termNames.add(front, back, terms);
            terms++;
        }

        private void addGene(long front, long back) {
            geneNames.add(front, back, geneNames.count);
        }

        private boolean canLink(int child, int parent) {
            return links < MOST_LINKS || parents.has(child, parent);
        }

        /** There is no ring, so the parent's own row does not change while it is joined to those below. */
        private void link(int child, int parent) {
            if (parents.has(child, parent)) {
                return;
            }
            parents.put(child, parent);
            links++;
            for (int term = 0; term < terms; term++) {
                if (isSameOrAbove(child, term)) {
                    above.join(term, above, parent);
                    above.put(term, parent);
                }
            }
            for (int term = 0; term < terms; term++) {
                if (isSameOrAbove(term, parent)) {
                    at.join(term, at, child);
                }
            }
        }

        private boolean canNote(int gene, int term) {
            return notes < MOST_NOTES || noted.has(term, gene);
        }

        private void note(int gene, int term) {
            if (noted.has(term, gene)) {
                return;
            }
            noted.put(term, gene);
            notes++;
            for (int upper = 0; upper < terms; upper++) {
                if (isSameOrAbove(upper, term)) {
                    at.put(upper, gene);
                }
            }
        }

        private void empty() {
            termNames.count = 0;
            geneNames.count = 0;
            parents.empty();
            above.empty();
            noted.empty();
            at.empty();
            old.empty();
            study.empty();
            terms = 0;
            links = 0;
            notes = 0;
        }
    }

    /** Reads the lines of the text and does them at the board, up to the first fault. */
    private static final class Clerk {
        private final Text text = new Text();
        private final Board board = new Board();
        private int faultNumber = NO_FAULT;
        private int faultPlace = NONE;
        private long newFront = 0;
        private long newBack = 0;
        /** The known term or gene of the word before, and that of the latest word. */
        private int before = NONE;
        private int latest = NONE;

        private int doLines() {
            faultNumber = NO_FAULT;
            faultPlace = NONE;
            int done = 0;
            int from = 0;
            while (from < text.length && done < MOST_BYTES) {
                text.openLine(from);
                faultNumber = text.lineEnd > from ? doLine() : NO_FAULT;
                if (faultNumber != NO_FAULT) {
                    faultPlace = faultNumber == FAULT_MANY ? text.lineFrom : text.wordFrom;
                    return done;
                }
                done++;
                from = text.lineEnd + 1;
            }
            return done;
        }

        private int doLine() {
            text.openWord();
            LineKind kind = kindOfWord();
            if (kind == null) {
                return FAULT_WORD;
            }
            before = NONE;
            latest = NONE;
            int fault = readWord(kind.second);
            if (fault == NO_FAULT && kind.third != NO_WORD) {
                fault = readWord(kind.third);
            }
            if (fault == NO_FAULT && text.openWord()) {
                fault = FAULT_WORD;
            }
            return fault == NO_FAULT ? carryOut(kind) : fault;
        }

        private LineKind kindOfWord() {
            for (int i = 0; i < LINE_KINDS.length; i++) {
                if (text.wordIs(LINE_KINDS[i].word)) {
                    return LINE_KINDS[i];
                }
            }
            return null;
        }

        private int readWord(int needed) {
            if (!text.openWord() || text.wordLength() == 0) {
                return FAULT_WORD;
            }
            if (!text.wordIsName()) {
                return FAULT_NAME;
            }
            long front = text.wordHalf(0);
            long back = text.wordHalf(LETTERS_IN_HALF);
            boolean ofGene = needed == NEW_GENE_NAME || needed == KNOWN_GENE;
            int found = (ofGene ? board.geneNames : board.termNames).ownerOf(front, back);
            if (needed == NEW_TERM_NAME || needed == NEW_GENE_NAME) {
                newFront = front;
                newBack = back;
                return found == NONE ? NO_FAULT : FAULT_TAKEN;
            }
            before = latest;
            latest = found;
            return found == NONE ? FAULT_UNKNOWN : faultOfKnown(needed);
        }

        private int faultOfKnown(int needed) {
            if (needed == PARENT_TERM && board.hasTerm(before) && board.isSameOrAbove(before, latest)) {
                return FAULT_RING;
            }
            boolean hasToLive = needed == LIVING_TERM || needed == PARENT_TERM;
            return hasToLive && board.isOld(latest) ? FAULT_OLD : NO_FAULT;
        }

        /** All words of the line are right; only its being one too many is left to ask. */
        private int carryOut(LineKind kind) {
            switch (kind) {
                case TERM:
                    if (!board.canAddTerm()) {
                        return FAULT_MANY;
                    }
                    board.addTerm(newFront, newBack);
                    return NO_FAULT;
                case ALIAS:
                    if (board.termNames.isFull()) {
                        return FAULT_MANY;
                    }
                    board.termNames.add(newFront, newBack, latest);
                    return NO_FAULT;
                case ISA:
                case PART:
                    if (!board.canLink(before, latest)) {
                        return FAULT_MANY;
                    }
                    board.link(before, latest);
                    return NO_FAULT;
                case OLD:
                    board.old.put(0, latest);
                    return NO_FAULT;
                case GENE:
                    if (board.geneNames.isFull()) {
                        return FAULT_MANY;
                    }
                    board.addGene(newFront, newBack);
                    return NO_FAULT;
                case NOTE:
                    if (!board.canNote(before, latest)) {
                        return FAULT_MANY;
                    }
                    board.note(before, latest);
                    return NO_FAULT;
                case STUDY:
                    board.study.put(0, latest);
                    return NO_FAULT;
                default:
                    return NO_FAULT;
            }
        }
    }

    /**
     * Whole numbers of 72 digits, nine in each element, the lowest first. The greatest that is ever needed is a
     * cut-off's part times 200 times C(200, 100), which has 71 digits.
     */
    private static final class Wide {
        private static final int PARTS = 8;
        private static final int DIGITS_IN_PART = 9;
        private static final long PART = 1000000000L;

        private static void set(int[] number, int small) {
            Arrays.fill(number, 0);
            number[0] = small;
        }

        private static void copy(int[] from, int[] to) {
            System.arraycopy(from, 0, to, 0, PARTS);
        }

        private static void multiply(int[] number, int by) {
            long carry = 0;
            for (int i = 0; i < PARTS; i++) {
                carry += (long) number[i] * by;
                number[i] = (int) (carry % PART);
                carry /= PART;
            }
        }

        private static void divide(int[] number, int by) {
            if (by < 1) {
                return;
            }
            long rest = 0;
            for (int i = PARTS - 1; i >= 0; i--) {
                rest = rest * PART + number[i];
                number[i] = (int) (rest / by);
                rest %= by;
            }
        }

        private static boolean isMultiple(int[] number, int by) {
            if (by < 1) {
                return false;
            }
            long rest = 0;
            for (int i = PARTS - 1; i >= 0; i--) {
                rest = (rest * PART + number[i]) % by;
            }
            return rest == 0;
        }

        private static void add(int[] number, int[] other) {
            long carry = 0;
            for (int i = 0; i < PARTS; i++) {
                carry += (long) number[i] + other[i];
                number[i] = (int) (carry % PART);
                carry /= PART;
            }
        }

        /** The other number is not the greater one. */
        private static void subtract(int[] number, int[] other) {
            int borrow = 0;
            for (int i = 0; i < PARTS; i++) {
                int part = number[i] - other[i] - borrow;
                borrow = part < 0 ? 1 : 0;
                number[i] = part < 0 ? part + (int) PART : part;
            }
        }

        private static int compare(int[] number, int[] other) {
            for (int i = PARTS - 1; i >= 0; i--) {
                if (number[i] != other[i]) {
                    return number[i] < other[i] ? -1 : 1;
                }
            }
            return 0;
        }

        /** Every step is whole: it leaves the number times C(of - take + i, i). */
        private static void multiplyByChoices(int[] number, int of, int take) {
            for (int i = 1; i <= take; i++) {
                multiply(number, of - take + i);
                divide(number, i);
            }
        }
    }

    /**
     * The candidates of the time when the report was made, by their numbers, with all values, and the report's
     * rows. A value is upper / (divisor * all): all chances have C(N, n) below, and only the third correction
     * divides once more.
     */
    private static final class Ranking {
        private final int[] termOf = new int[MOST_TERMS];
        private final int[] hits = new int[MOST_TERMS];
        private final int[] sizes = new int[MOST_TERMS];
        private final int[][] upper = new int[VALUES * MOST_TERMS][Wide.PARTS];
        private final int[] divisor = new int[VALUES * MOST_TERMS];
        private final int[] all = new int[Wide.PARTS];
        private final int[] byChance = new int[MOST_TERMS];
        private final int[] rowOrder = new int[MOST_TERMS];
        private final int[] left = new int[Wide.PARTS];
        private final int[] right = new int[Wide.PARTS];
        private int genes = 0;
        private int studied = 0;
        private int candidates = 0;
        private int rows = 0;

        private static int slot(int value, int candidate) {
            return value * MOST_TERMS + candidate;
        }

        private boolean hasRow(int i) {
            return i >= 0 && i < rows;
        }

        private void rank(Board board) {
            takeCandidates(board);
            Wide.set(all, 1);
            Wide.multiplyByChoices(all, genes, studied);
            for (int i = 0; i < candidates; i++) {
                reckonChance(i);
                byChance[i] = i;
            }
            sort(byChance, candidates, CHANCE);
            for (int i = 0; i < candidates; i++) {
                setCapped(slot(TIMES_ALL, i), i, candidates, 1);
            }
            stepDown();
            stepUp();
        }

        private void takeCandidates(Board board) {
            genes = board.genes();
            studied = board.studied();
            candidates = 0;
            for (int term = 0; term < board.terms; term++) {
                if (board.isCandidate(term)) {
                    termOf[candidates] = term;
                    hits[candidates] = board.studiedAt(term);
                    sizes[candidates] = board.genesAt(term);
                    candidates++;
                }
            }
        }

        private void reckonChance(int candidate) {
            int slot = slot(CHANCE, candidate);
            divisor[slot] = 1;
            for (int other = 0; other < candidate; other++) {
                if (hits[other] == hits[candidate] && sizes[other] == sizes[candidate]) {
                    Wide.copy(upper[slot(CHANCE, other)], upper[slot]);
                    return;
                }
            }
            sumWays(upper[slot], sizes[candidate], hits[candidate]);
        }

        /** Each way's number comes from the one before by small factors, so no two wide numbers are multiplied. */
        private void sumWays(int[] sum, int size, int least) {
            Wide.set(left, 1);
            Wide.multiplyByChoices(left, size, least);
            Wide.multiplyByChoices(left, genes - size, studied - least);
            Wide.copy(left, sum);
            int most = Math.min(size, studied);
            for (int i = least; i < most; i++) {
                Wide.multiply(left, (size - i) * (studied - i));
                Wide.divide(left, (i + 1) * (genes - size - studied + i + 1));
                Wide.add(sum, left);
            }
        }

        /** The lesser of 1 and the candidate's chance times a number, divided by another one. */
        private void setCapped(int slot, int candidate, int times, int by) {
            Wide.copy(upper[slot(CHANCE, candidate)], upper[slot]);
            Wide.multiply(upper[slot], times);
            divisor[slot] = by;
            Wide.copy(all, right);
            Wide.multiply(right, by);
            if (Wide.compare(upper[slot], right) >= 0) {
                Wide.copy(all, upper[slot]);
                divisor[slot] = 1;
            }
        }

        private void stepDown() {
            for (int j = 0; j < candidates; j++) {
                int slot = slot(STEP_DOWN, byChance[j]);
                setCapped(slot, byChance[j], candidates - j, 1);
                if (j > 0) {
                    int before = slot(STEP_DOWN, byChance[j - 1]);
                    if (compareSlots(before, slot) > 0) {
                        copySlot(before, slot);
                    }
                }
            }
        }

        private void stepUp() {
            for (int j = candidates - 1; j >= 0; j--) {
                int slot = slot(STEP_UP, byChance[j]);
                setCapped(slot, byChance[j], candidates, j + 1);
                if (j < candidates - 1) {
                    int behind = slot(STEP_UP, byChance[j + 1]);
                    if (compareSlots(behind, slot) < 0) {
                        copySlot(behind, slot);
                    }
                }
            }
        }

        private void copySlot(int from, int to) {
            Wide.copy(upper[from], upper[to]);
            divisor[to] = divisor[from];
        }

        private int compareSlots(int a, int b) {
            if (divisor[a] == divisor[b]) {
                return Wide.compare(upper[a], upper[b]);
            }
            Wide.copy(upper[a], left);
            Wide.multiply(left, divisor[b]);
            Wide.copy(upper[b], right);
            Wide.multiply(right, divisor[a]);
            return Wide.compare(left, right);
        }

        private void chooseRows(int value, int a, int b) {
            rows = 0;
            for (int i = 0; i < candidates; i++) {
                if (isWithin(slot(value, i), a, b)) {
                    rowOrder[rows] = i;
                    rows++;
                }
            }
            sort(rowOrder, rows, value);
        }

        private boolean isWithin(int slot, int a, int b) {
            Wide.copy(upper[slot], left);
            Wide.multiply(left, b);
            Wide.copy(all, right);
            Wide.multiply(right, divisor[slot]);
            Wide.multiply(right, a);
            return Wide.compare(left, right) <= 0;
        }

        /** Each one goes behind those that equal it, so candidates that come by their numbers stay so. */
        private void sort(int[] order, int count, int value) {
            for (int i = 1; i < count; i++) {
                int candidate = order[i];
                int low = 0;
                int high = i;
                while (low < high) {
                    int middle = (low + high) / 2;
                    if (compareSlots(slot(value, candidate), slot(value, order[middle])) < 0) {
                        high = middle;
                    } else {
                        low = middle + 1;
                    }
                }
                System.arraycopy(order, low, order, low + 1, i - low);
                order[low] = candidate;
            }
        }
    }

    /** What was printed latest, and the fraction, at most 1, that is being printed. */
    private static final class Strip {
        private final char[] characters = new char[MOST_PRINTED];
        private final int[] above = new int[Wide.PARTS];
        private final int[] below = new int[Wide.PARTS];
        private int length = 0;

        private void take(int[] upper, int[] lower, int divisor) {
            Wide.copy(upper, above);
            Wide.copy(lower, below);
            Wide.multiply(below, divisor);
            length = 0;
        }

        private void write(int character) {
            if (length < MOST_PRINTED) {
                characters[length] = (char) character;
                length++;
            }
        }

        private void writeJust() {
            reduce();
            if (Wide.compare(above, below) == 0) {
                write('1');
                return;
            }
            writeWhole(above);
            write('/');
            writeWhole(below);
        }

        /** What stands below is a number up to 200 times C(N, n): it has no prime factor above 200. */
        private void reduce() {
            for (int factor = 2; factor <= MOST_GENES; factor++) {
                // 2 to the power of 240 is beyond every wide number
                for (int times = 0; times < 240 && isCommon(factor); times++) {
                    Wide.divide(above, factor);
                    Wide.divide(below, factor);
                }
            }
        }

        private boolean isCommon(int factor) {
            return Wide.isMultiple(below, factor) && Wide.isMultiple(above, factor);
        }

        private void writeWhole(int[] number) {
            boolean begun = false;
            for (int i = Wide.PARTS - 1; i >= 0; i--) {
                int unit = (int) Wide.PART / 10;
                for (int digit = 0; digit < Wide.DIGITS_IN_PART; digit++) {
                    int figure = number[i] / unit % 10;
                    unit = unit > 1 ? unit / 10 : 1;
                    begun = begun || figure > 0;
                    if (begun) {
                        write('0' + figure);
                    }
                }
            }
        }

        private void writeRounded(int places) {
            writeNextDigit();
            if (places > 0) {
                write('.');
            }
            for (int i = 0; i < places; i++) {
                Wide.multiply(above, 10);
                writeNextDigit();
            }
            Wide.multiply(above, 2);
            int half = Wide.compare(above, below);
            boolean odd = length > 0 && characters[length - 1] % 2 == 1;
            if (half > 0 || half == 0 && odd) {
                raiseLastDigit();
            }
        }

        /** Leaves the rest of the division above. */
        private void writeNextDigit() {
            int digit = 0;
            while (digit < 9 && Wide.compare(above, below) >= 0) {
                Wide.subtract(above, below);
                digit++;
            }
            write('0' + digit);
        }

        private void raiseLastDigit() {
            for (int i = length - 1; i >= 0; i--) {
                if (characters[i] == '9') {
                    characters[i] = '0';
                } else if (characters[i] != '.') {
                    characters[i]++;
                    return;
                }
            }
        }
    }
}
