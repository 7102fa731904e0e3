/**
 * A sorter of census cards: decks of two to six cards with three columns of figures, passed
 * column by column through a machine of pockets. The promises stand in ../shared/DOC.md.
 *
 * All rows are made with the object and used again, so that no call makes anything.
 */
public final class CardPasses {
    public static final int BAD = -1, FULL = -2, FINDING = -3, STATE = -4, SPENT = -6, NONE = -9;

    private static final int NOTHING = 1, BEYOND = 2, UNLIKE = 3, NOUGHT = 4, SIZE = 5;

    private static final int CARD = 0, CUT = 1, WORN = 2, DOUBLE = 3, TORN = 4, MASTER = 5;
    private static final int KINDS = 6;
    private static final int[] LETTERS = {99, 120, 119, 100, 116, 109};
    /** Of which wider kind each kind is. */
    private static final int[] WIDER = {CARD, CARD, CARD, CARD, WORN, DOUBLE};

    private static final int PASSED = 0, TURNED = 1, LIFTED = 2, PUNCHED = 3;

    private static final int ROWS = 6, ROW_SIZE = 40, TEXTS = 4, TEXT_SIZE = 60, KEPT = 3;
    private static final int FEWEST_CARDS = 2, MOST_CARDS = 6, COLUMNS = 3, FIGURES = 10;
    private static final int THROWN_OUT = 10, POCKETS = 11;
    private static final int MOST_DEEDS = 40, MOST_PASSES = 60, MOST_TOLD = 10, MOST_SOUGHT = 5;
    private static final int MOST_PAIRS = 8, MOST_TURNS = 3, MOST_SUM = 54, CHANCES = 12;
    private static final int PASSES_PER_WEAR = 4, MOST_WEAR_TOLD = 9;
    private static final int BLANK = 32, NOUGHT_SIGN = 48, BYTE_SHIFT = 1000;
    private static final int CARD_FACTS = 8, COUNTS = 10, MOST_LOTS = 20;
    private static final long LOT_FACTOR = 48271L, LOT_MODULUS = 2147483647L;

    private final Shelf rows = new Shelf(ROWS, ROW_SIZE);
    private final Shelf texts = new Shelf(TEXTS, TEXT_SIZE);
    /** A kept deck is its deeds alone: all kept decks come from the text that the deck came from. */
    private final Shelf kept = new Shelf(KEPT, MOST_DEEDS);
    private final Reader reader = new Reader();
    private final Deck deck = new Deck();
    private final Trial trial = new Trial();
    private final Clues clues = new Clues();
    private final int[] foundOften = new int[SIZE + 1];
    private int foundLast = 0;
    private int told = 0;
    private long toldUpper = 0;
    private long toldLower = 1;

    public CardPasses() {
    }

    // ---- 1 rows, texts, decks

    public int row(int r, int n) {
        if (!isRow(r) || n > ROW_SIZE) {
            return BAD;
        }
        if (n < 0) {
            return found(SIZE);
        }
        rows.make(r, n, 0);
        return n;
    }

    public int lay(int r, int i, int v) {
        int refusal = refusedPlace(r, i);
        if (refusal != 0) {
            return refusal;
        }
        told = rows.get(r, i);
        rows.set(r, i, v);
        return 1;
    }

    public int at(int r, int i) {
        int refusal = refusedPlace(r, i);
        if (refusal != 0) {
            return refusal;
        }
        told = rows.get(r, i);
        return 1;
    }

    public int tear(int r) {
        int refusal = refusedRow(r);
        if (refusal != 0) {
            return refusal;
        }
        rows.remove(r);
        return 1;
    }

    public int copy(int r, int i, int to, int j, int n) {
        if (!isRow(r) || !isRow(to)) {
            return BAD;
        }
        if (n < 0) {
            return found(SIZE);
        }
        if (!rows.holds(r) || !rows.holds(to)) {
            return found(NOTHING);
        }
        if (!rows.spans(r, i, n) || !rows.spans(to, j, n)) {
            return found(BEYOND);
        }
        // Within one row the copying runs away from where it writes, as if all were taken ahead.
        if (i < j) {
            for (int k = n - 1; k >= 0; k--) {
                rows.set(to, j + k, rows.get(r, i + k));
            }
        } else {
            for (int k = 0; k < n; k++) {
                rows.set(to, j + k, rows.get(r, i + k));
            }
        }
        return 1;
    }

    public int mean(int r) {
        int refusal = refusedRow(r);
        if (refusal != 0) {
            return refusal;
        }
        int n = rows.sizeOf(r);
        if (n <= 0) {
            return found(NOUGHT);
        }
        long sum = 0;
        for (int i = 0; i < n; i++) {
            sum += rows.get(r, i);
        }
        told = (int) (sum / n);
        return 1;
    }

    public int text(int t, int n) {
        if (!isText(t) || n > TEXT_SIZE) {
            return BAD;
        }
        if (n < 0) {
            return found(SIZE);
        }
        texts.make(t, n, BLANK);
        return n;
    }

    public int put(int t, int i, int v) {
        int refusal = refusedText(t);
        if (refusal != 0) {
            return refusal;
        }
        if (!texts.spans(t, i, 1)) {
            return found(BEYOND);
        }
        int was = texts.get(t, i);
        texts.set(t, i, (byte) v);
        return was + BYTE_SHIFT;
    }

    public int fault(int t) {
        int refusal = refusedText(t);
        if (refusal != 0) {
            return refusal;
        }
        return reader.faultOf(texts, t);
    }

    public int deck(int t) {
        int refusal = refusedText(t);
        if (refusal != 0) {
            return refusal;
        }
        if (reader.faultOf(texts, t) != NONE) {
            return STATE;
        }
        deck.begin(reader);
        for (int k = 0; k < KEPT; k++) {
            kept.remove(k);
        }
        return deck.size;
    }

    public int card(int i, int what) {
        if (!isCard(i) || what < 0 || what >= CARD_FACTS) {
            return BAD;
        }
        told = cardFact(i, what);
        return 1;
    }

    public int mark(int i, int kind) {
        if (!isCard(i) || kind <= CARD || kind >= KINDS) {
            return BAD;
        }
        if (!isOf(deck.kindOf[i], kind)) {
            return found(UNLIKE);
        }
        switch (kind) {
            case WORN:
                return Math.min(MOST_WEAR_TOLD, deck.passes / PASSES_PER_WEAR);
            case MASTER:
                return deck.placeOf(i);
            default:
                return markedColumns(i, kind);
        }
    }

    // ---- 2 deeds

    public int pass(int column) {
        if (!isColumn(column)) {
            return BAD;
        }
        int refusal = refusedDeeds(1);
        if (refusal != 0) {
            return refusal;
        }
        return deck.add(deedOf(PASSED, column, 0, 0));
    }

    public int turn() {
        int refusal = refusedDeeds(1);
        if (refusal != 0) {
            return refusal;
        }
        return deck.add(deedOf(TURNED, 0, 0, 0));
    }

    public int lift(int n) {
        if (deck.size == 0) {
            return STATE;
        }
        if (n < 1 || n >= deck.size) {
            return BAD;
        }
        int refusal = refusedDeeds(1);
        if (refusal != 0) {
            return refusal;
        }
        return deck.add(deedOf(LIFTED, n, 0, 0));
    }

    public int punch(int i, int column, int v) {
        if (!isCard(i) || !isColumn(column) || v < 0 || v >= FIGURES) {
            return BAD;
        }
        int was = deck.figureOf(i, column);
        if (was == v) {
            return STATE;
        }
        int refusal = refusedDeeds(1);
        if (refusal != 0) {
            return refusal;
        }
        deck.add(deedOf(PUNCHED, i, column, v));
        return was;
    }

    public int undo(int n) {
        // Just behind the latest deed lie no deeds, so none is undone there.
        if (n < 0 || n > deck.done) {
            return BAD;
        }
        int undone = deck.done - n;
        deck.redo(n);
        return undone;
    }

    public int keep(int k) {
        if (k < 0 || k >= KEPT) {
            return BAD;
        }
        if (deck.size == 0) {
            return STATE;
        }
        kept.make(k, deck.done, 0);
        for (int d = 0; d < deck.done; d++) {
            kept.set(k, d, deck.deeds[d]);
        }
        return deck.done;
    }

    public int on(int k) {
        if (k < 0 || k >= KEPT) {
            return BAD;
        }
        if (!kept.holds(k)) {
            return found(NOTHING);
        }
        int many = kept.sizeOf(k);
        for (int d = 0; d < many; d++) {
            deck.deeds[d] = kept.get(k, d);
        }
        deck.redo(many);
        return many;
    }

    // ---- 3 passes (aside)

    public int pocket(int i, int column, int n) {
        if (!isCard(i) || !isColumn(column) || n < 0 || n > MOST_PASSES) {
            return BAD;
        }
        return deck.readsBehind(i, column, n);
    }

    public int run(int r, int to) {
        if (!isRow(r) || !isRow(to)) {
            return BAD;
        }
        if (deck.size == 0) {
            return STATE;
        }
        if (!rows.holds(r)) {
            return found(NOTHING);
        }
        if (rows.sizeOf(r) > MOST_TOLD) {
            return found(SIZE);
        }
        if (!allColumns(r)) {
            return found(UNLIKE);
        }
        int[] lie = trial.passAll(deck, rows, r);
        rows.fill(to, lie, deck.size);
        return lie[0];
    }

    public int fewest(int i, int place, int r) {
        if (!isCard(i) || !isCard(place) || !isRow(r)) {
            return BAD;
        }
        trial.wantPlace(i, place);
        return soughtInto(r);
    }

    public int order(int column, int r) {
        if (!isColumn(column) || !isRow(r)) {
            return BAD;
        }
        if (deck.size == 0) {
            return STATE;
        }
        trial.wantOrder(column);
        return soughtInto(r);
    }

    // ---- 4 by which column (aside)

    public int columns(int r) {
        if (!isRow(r)) {
            return BAD;
        }
        if (deck.size == 0) {
            return STATE;
        }
        if (!rows.holds(r)) {
            return found(NOTHING);
        }
        if (rows.sizeOf(r) != deck.size) {
            return found(SIZE);
        }
        if (!eachCardOnce(r)) {
            return found(UNLIKE);
        }
        int bits = 0;
        for (int column = 0; column < COLUMNS; column++) {
            if (liesAs(r, trial.passOnce(deck, column, 0))) {
                bits |= 1 << column;
            }
        }
        return bits;
    }

    // ---- 5 by its pockets

    public int kinds(int i, int r) {
        int refusal = refusedClues(i, 0, r);
        if (refusal != 0) {
            return refusal;
        }
        return clues.kindsOf(deck, i, rows, r);
    }

    public int figures(int i, int column, int r) {
        int refusal = refusedClues(i, column, r);
        if (refusal != 0) {
            return refusal;
        }
        return clues.figuresOf(deck, i, column, rows, r);
    }

    public int next(int i, int r) {
        int refusal = refusedClues(i, 0, r);
        if (refusal != 0) {
            return refusal;
        }
        int among = clues.kindsOf(deck, i, rows, r);
        if (among == 0) {
            return NONE;
        }
        int best = 0;
        int least = clues.greatestPart(deck, i, 0, among);
        for (int column = 1; column < COLUMNS; column++) {
            int part = clues.greatestPart(deck, i, column, among);
            if (part < least) {
                least = part;
                best = column;
            }
        }
        told = least;
        return best;
    }

    // ---- 6 whose figures

    public int sets(int column, int v) {
        int refusal = refusedSum(column, v);
        if (refusal != 0) {
            return refusal;
        }
        int many = 0;
        int first = NONE;
        for (int set = 0; set < 1 << deck.size; set++) {
            if (deck.sumOf(set, column) == v) {
                many++;
                if (first == NONE) {
                    first = set;
                }
            }
        }
        told = first;
        tellParts(many, 1);
        return 1;
    }

    public int sure(int column, int v) {
        int refusal = refusedSum(column, v);
        if (refusal != 0) {
            return refusal;
        }
        int all = (1 << deck.size) - 1;
        int inEach = all;
        int inSome = 0;
        boolean any = false;
        for (int set = 0; set <= all; set++) {
            if (deck.sumOf(set, column) == v) {
                any = true;
                inEach &= set;
                inSome |= set;
            }
        }
        if (!any) {
            return found(NOUGHT);
        }
        told = all & ~inSome;
        return inEach;
    }

    // ---- 7 by turns

    public int duel(int i, int j, int n) {
        if (!isCard(i) || !isCard(j) || i == j || n < 0 || n > MOST_TURNS) {
            return BAD;
        }
        told = trial.duelOf(deck, i, j, n);
        return 1;
    }

    // ---- 8 chances, lots

    public int odds(int i, int column, int p) {
        if (!isChance(i, column, p)) {
            return BAD;
        }
        long onTop = 0;
        for (int misread = 0; misread < 1 << deck.size; misread++) {
            if (trial.passOnce(deck, column, misread)[0] == i) {
                onTop += weightOf(misread, p);
            }
        }
        tellParts(onTop, allWeights());
        return 1;
    }

    public int mid(int i, int column, int p) {
        if (!isChance(i, column, p)) {
            return BAD;
        }
        long places = 0;
        for (int misread = 0; misread < 1 << deck.size; misread++) {
            int place = placeIn(trial.passOnce(deck, column, misread), i, deck.size);
            places += place * weightOf(misread, p);
        }
        tellParts(places, allWeights());
        return 1;
    }

    public int lots(int n, int seed) {
        if (n < 1 || n > MOST_LOTS || seed < 1 || seed >= LOT_MODULUS) {
            return BAD;
        }
        int refusal = refusedDeeds(n);
        if (refusal != 0) {
            return refusal;
        }
        long lot = seed;
        for (int k = 0; k < n; k++) {
            lot = lot * LOT_FACTOR % LOT_MODULUS;
            deck.add(deedByLot((int) lot, deck.size));
        }
        return deck.lie[0];
    }

    // ---- 9 what is told

    public int asked() {
        return told;
    }

    public long upper() {
        return toldUpper;
    }

    public long lower() {
        return toldLower;
    }

    public int count(int what) {
        if (what < 0 || what >= COUNTS) {
            return BAD;
        }
        return counted(what);
    }

    public int finding() {
        return foundLast;
    }

    public int findings(int f) {
        if (f < NOTHING || f > SIZE) {
            return BAD;
        }
        return foundOften[f];
    }

    public long digest() {
        long h = 17;
        for (int what = 0; what < COUNTS; what++) {
            h = 31 * h + counted(what);
        }
        for (int i = 0; i < deck.size; i++) {
            for (int what = 0; what < CARD_FACTS; what++) {
                h = 31 * h + cardFact(i, what);
            }
        }
        for (int k = 0; k < KEPT; k++) {
            h = 31 * h + kept.sizeOf(k);
        }
        return texts.digestOn(rows.digestOn(h));
    }

    // ---- what is refused: 0 where nothing is

    private int found(int finding) {
        foundLast = finding;
        foundOften[finding]++;
        return FINDING;
    }

    private int refusedRow(int r) {
        if (!isRow(r)) {
            return BAD;
        }
        return rows.holds(r) ? 0 : found(NOTHING);
    }

    private int refusedPlace(int r, int i) {
        int refusal = refusedRow(r);
        if (refusal != 0) {
            return refusal;
        }
        return rows.spans(r, i, 1) ? 0 : found(BEYOND);
    }

    private int refusedText(int t) {
        if (!isText(t)) {
            return BAD;
        }
        return texts.holds(t) ? 0 : found(NOTHING);
    }

    private int refusedDeeds(int n) {
        if (deck.size == 0) {
            return STATE;
        }
        return deck.done + n > MOST_DEEDS ? FULL : 0;
    }

    private int refusedClues(int i, int column, int r) {
        if (!isCard(i) || !isColumn(column) || !isRow(r)) {
            return BAD;
        }
        if (!rows.holds(r)) {
            return found(NOTHING);
        }
        int n = rows.sizeOf(r);
        if (n % 2 != 0 || n > 2 * MOST_PAIRS) {
            return found(SIZE);
        }
        for (int k = 0; k + 1 < n; k += 2) {
            int pocket = rows.get(r, k + 1);
            if (!isColumn(rows.get(r, k)) || pocket < 0 || pocket >= POCKETS) {
                return found(UNLIKE);
            }
        }
        return 0;
    }

    private int refusedSum(int column, int v) {
        if (!isColumn(column) || v < 0 || v > MOST_SUM) {
            return BAD;
        }
        return deck.size == 0 ? STATE : 0;
    }

    // ---- tests of numbers

    private static boolean isRow(int r) {
        return r >= 0 && r < ROWS;
    }

    private static boolean isText(int t) {
        return t >= 0 && t < TEXTS;
    }

    private static boolean isColumn(int column) {
        return column >= 0 && column < COLUMNS;
    }

    /** Also tells whether a place of the deck is one: there are as many places as cards. */
    private boolean isCard(int i) {
        return i >= 0 && i < deck.size;
    }

    private boolean isChance(int i, int column, int p) {
        return isCard(i) && isColumn(column) && p >= 0 && p <= CHANCES;
    }

    private boolean allColumns(int r) {
        for (int k = 0; k < rows.sizeOf(r); k++) {
            if (!isColumn(rows.get(r, k))) {
                return false;
            }
        }
        return true;
    }

    private boolean eachCardOnce(int r) {
        int seen = 0;
        for (int k = 0; k < rows.sizeOf(r); k++) {
            int i = rows.get(r, k);
            if (!isCard(i) || (seen >> i & 1) != 0) {
                return false;
            }
            seen |= 1 << i;
        }
        return true;
    }

    private boolean liesAs(int r, int[] lie) {
        for (int k = 0; k < deck.size; k++) {
            if (rows.get(r, k) != lie[k]) {
                return false;
            }
        }
        return true;
    }

    // ---- what is told of cards and of all

    private int cardFact(int i, int what) {
        if (what == 0) {
            return deck.kindOf[i];
        }
        if (what <= COLUMNS) {
            return deck.figureOf(i, what - 1);
        }
        if (what == COLUMNS + 1) {
            return deck.placeOf(i);
        }
        return deck.readsBehind(i, what - COLUMNS - 2, deck.passes);
    }

    private int markedColumns(int i, int kind) {
        int many = 0;
        for (int column = 0; column < COLUMNS; column++) {
            int reads = deck.readsBehind(i, column, deck.passes);
            int plain = deck.figureOf(i, column);
            boolean marked;
            if (kind == CUT) {
                marked = reads != plain;
            } else if (kind == DOUBLE) {
                marked = reads > plain;
            } else {
                marked = reads == THROWN_OUT;
            }
            if (marked) {
                many++;
            }
        }
        return many;
    }

    private int counted(int what) {
        switch (what) {
            case 0:
                return deck.size;
            case 1:
                return deck.passes;
            case 2:
                return deck.done;
            case 3:
                return deck.size == 0 ? NONE : deck.lie[0];
            case 4:
                return deck.sumOfAll();
            case 5:
                return deck.manyOf(WORN);
            case 6:
                return deck.manyOf(DOUBLE);
            case 7:
                return rows.held();
            case 8:
                return texts.held();
            default:
                return kept.held();
        }
    }

    private int soughtInto(int r) {
        int depth = trial.seek(deck);
        if (depth != NONE) {
            rows.fill(r, trial.path, depth);
        }
        return depth;
    }

    // ---- chances

    private long weightOf(int misread, int p) {
        long weight = 1;
        for (int i = 0; i < deck.size; i++) {
            weight *= (misread >> i & 1) != 0 ? p : CHANCES - p;
        }
        return weight;
    }

    private long allWeights() {
        long all = 1;
        for (int i = 0; i < deck.size; i++) {
            all *= CHANCES;
        }
        return all;
    }

    private void tellParts(long part, long whole) {
        long common = commonDivisor(part, whole);
        if (common > 0) {
            toldUpper = part / common;
            toldLower = whole / common;
        }
    }

    private static long commonDivisor(long a, long b) {
        // Euclid's steps on numbers this small end long before the bound.
        for (int step = 0; step < 200 && b != 0; step++) {
            long rest = a % b;
            a = b;
            b = rest;
        }
        return a;
    }

    // ---- deeds as numbers: what, then three figures

    private static int deedOf(int what, int first, int second, int third) {
        return ((what * 10 + first) * 10 + second) * 10 + third;
    }

    /** For a deck of two cards or more. */
    private static int deedByLot(int lot, int cards) {
        int choice = lot / 8 % 8;
        if (choice < 5 || cards < FEWEST_CARDS) {
            return deedOf(PASSED, lot % COLUMNS, 0, 0);
        }
        if (choice == 5) {
            return deedOf(TURNED, 0, 0, 0);
        }
        if (choice == 6) {
            return deedOf(LIFTED, 1 + lot / 64 % (cards - 1), 0, 0);
        }
        return deedOf(PUNCHED, lot / 64 % cards, lot % COLUMNS, lot / 512 % FIGURES);
    }

    // ---- what cards read

    private static boolean isOf(int kind, int wanted) {
        return kind == wanted || WIDER[kind] == wanted;
    }

    /** What a card of the kind reads whose three figures stand in the row from the place on. */
    private static int reading(int kind, int[] figures, int from, int column, int passes) {
        int plain = figures[from + column];
        switch (kind) {
            case CUT:
                return figures[from + COLUMNS - 1 - column];
            case WORN:
                return wornBy(plain, passes);
            case DOUBLE:
                return doubled(figures, from, column);
            case TORN:
                return plain == 0 ? THROWN_OUT : wornBy(plain, passes);
            case MASTER:
                int greater = doubled(figures, from, column);
                return greater == FIGURES - 1 ? 0 : greater;
            default:
                return plain;
        }
    }

    private static int wornBy(int figure, int passes) {
        return Math.max(0, figure - passes / PASSES_PER_WEAR);
    }

    private static int doubled(int[] figures, int from, int column) {
        int own = figures[from + column];
        int beside = figures[from + (column + 1) % COLUMNS];
        return own > beside ? own : beside;
    }

    private static int placeIn(int[] lie, int card, int size) {
        for (int place = 0; place < size; place++) {
            if (lie[place] == card) {
                return place;
            }
        }
        return NONE;
    }

    private static int onePassMore(int passes) {
        return Math.min(MOST_PASSES, passes + 1);
    }

    /** Places that hold a row of numbers each, or none. */
    private static final class Shelf {
        private final int[] cells;
        private final int[] sizes;
        private final int width;

        private Shelf(int places, int width) {
            this.width = width;
            cells = new int[places * width];
            sizes = new int[places];
            for (int r = 0; r < places; r++) {
                sizes[r] = -1;
            }
        }

        private void make(int r, int n, int v) {
            if (r < 0 || r >= sizes.length || n < 0 || n > width) {
                return;
            }
            sizes[r] = n;
            for (int i = 0; i < n; i++) {
                cells[r * width + i] = v;
            }
        }

        private void fill(int r, int[] from, int n) {
            make(r, n, 0);
            for (int i = 0; i < n && i < from.length; i++) {
                set(r, i, from[i]);
            }
        }

        private void remove(int r) {
            if (r >= 0 && r < sizes.length) {
                sizes[r] = -1;
            }
        }

        /** -1 for a row that is missing, or that there can't be. */
        private int sizeOf(int r) {
            return r >= 0 && r < sizes.length ? sizes[r] : -1;
        }

        private boolean holds(int r) {
            return sizeOf(r) >= 0;
        }

        private boolean spans(int r, int i, int n) {
            return i >= 0 && n >= 0 && i <= sizeOf(r) && n <= sizeOf(r) - i;
        }

        private int get(int r, int i) {
            return spans(r, i, 1) ? cells[r * width + i] : 0;
        }

        private void set(int r, int i, int v) {
            if (spans(r, i, 1)) {
                cells[r * width + i] = v;
            }
        }

        private int held() {
            int many = 0;
            for (int r = 0; r < sizes.length; r++) {
                if (sizes[r] >= 0) {
                    many++;
                }
            }
            return many;
        }

        private long digestOn(long h) {
            for (int r = 0; r < sizes.length; r++) {
                h = 31 * h + sizes[r];
                for (int i = 0; i < sizes[r]; i++) {
                    h = 31 * h + get(r, i);
                }
            }
            return h;
        }
    }

    /** Reads a text as a deck, aside from the deck that lies. */
    private static final class Reader {
        private final int[] kindOf = new int[MOST_CARDS];
        private final int[] figures = new int[MOST_CARDS * COLUMNS];
        private int size = 0;

        /** The place of the fault, or NONE; then the cards stand here. */
        private int faultOf(Shelf texts, int t) {
            int end = texts.sizeOf(t);
            int column = COLUMNS;
            size = 0;
            for (int place = 0; place < end; place++) {
                int sign = texts.get(t, place);
                if (column < COLUMNS) {
                    int figure = sign - NOUGHT_SIGN;
                    if (figure < 0 || figure >= FIGURES) {
                        return place;
                    }
                    figures[(size - 1) * COLUMNS + column] = figure;
                    column++;
                } else if (sign != BLANK) {
                    int kind = kindBy(sign);
                    if (kind == NONE || size >= MOST_CARDS) {
                        return place;
                    }
                    kindOf[size] = kind;
                    size++;
                    column = 0;
                }
            }
            return column < COLUMNS || size < FEWEST_CARDS ? end : NONE;
        }

        private static int kindBy(int sign) {
            for (int kind = 0; kind < KINDS; kind++) {
                if (LETTERS[kind] == sign) {
                    return kind;
                }
            }
            return NONE;
        }
    }

    /** The cards as they were read, the deeds since, and how these have left the cards. */
    private static final class Deck {
        private final int[] kindOf = new int[MOST_CARDS];
        private final int[] readFigures = new int[MOST_CARDS * COLUMNS];
        private final int[] figures = new int[MOST_CARDS * COLUMNS];
        private final int[] lie = new int[MOST_CARDS];
        private final int[] lifted = new int[MOST_CARDS];
        private final int[] rank = new int[MOST_CARDS];
        private final int[] deeds = new int[MOST_DEEDS];
        private int size = 0;
        private int passes = 0;
        private int done = 0;

        private void begin(Reader from) {
            size = from.size;
            for (int i = 0; i < size; i++) {
                kindOf[i] = from.kindOf[i];
            }
            for (int k = 0; k < size * COLUMNS; k++) {
                readFigures[k] = from.figures[k];
            }
            redo(0);
        }

        /** As the cards lie by the first n of the deeds alone. */
        private void redo(int n) {
            for (int i = 0; i < size; i++) {
                lie[i] = i;
            }
            for (int k = 0; k < size * COLUMNS; k++) {
                figures[k] = readFigures[k];
            }
            passes = 0;
            done = n;
            for (int d = 0; d < n; d++) {
                carryOut(deeds[d]);
            }
        }

        /** The card on top then. */
        private int add(int deed) {
            if (done < MOST_DEEDS) {
                deeds[done] = deed;
                done++;
                carryOut(deed);
            }
            return lie[0];
        }

        private void carryOut(int deed) {
            int first = deed / 100 % 10;
            switch (deed / 1000) {
                case PASSED:
                    sift(lie, lie, first, passes, 0);
                    passes = onePassMore(passes);
                    break;
                case TURNED:
                    turnOver();
                    break;
                case LIFTED:
                    liftOff(first);
                    break;
                default:
                    figures[first * COLUMNS + deed / 10 % 10] = deed % 10;
                    break;
            }
        }

        private void turnOver() {
            for (int k = 0; k < size / 2; k++) {
                int card = lie[k];
                lie[k] = lie[size - 1 - k];
                lie[size - 1 - k] = card;
            }
        }

        private void liftOff(int n) {
            for (int k = 0; k < size; k++) {
                lifted[k] = lie[k];
            }
            for (int k = 0; k < size; k++) {
                lie[k] = lifted[(k + n) % size];
            }
        }

        /**
         * Lays cards as a pass by the column leaves them, misread ones (bits) thrown out; both
         * rows may be one. The cards that lead rank just ahead of the others of their pocket,
         * so that one steady sorting by rank does what the pockets do.
         */
        private void sift(int[] from, int[] to, int column, int before, int misread) {
            for (int k = 0; k < size; k++) {
                int card = from[k];
                boolean thrown = (misread >> card & 1) != 0;
                int pocket = thrown ? THROWN_OUT
                        : reading(kindOf[card], figures, card * COLUMNS, column, before);
                int own = 2 * pocket + (kindOf[card] == MASTER ? 0 : 1);
                int place = k;
                while (place > 0 && rank[place - 1] > own) {
                    rank[place] = rank[place - 1];
                    to[place] = to[place - 1];
                    place--;
                }
                rank[place] = own;
                to[place] = card;
            }
        }

        private int readsBehind(int card, int column, int before) {
            return reading(kindOf[card], figures, card * COLUMNS, column, before);
        }

        private int figureOf(int card, int column) {
            return figures[card * COLUMNS + column];
        }

        private int placeOf(int card) {
            return placeIn(lie, card, size);
        }

        private int sumOf(int set, int column) {
            int sum = 0;
            for (int i = 0; i < size; i++) {
                if ((set >> i & 1) != 0) {
                    sum += figureOf(i, column);
                }
            }
            return sum;
        }

        private int sumOfAll() {
            int sum = 0;
            for (int column = 0; column < COLUMNS; column++) {
                sum += sumOf((1 << size) - 1, column);
            }
            return sum;
        }

        private int manyOf(int kind) {
            int many = 0;
            for (int i = 0; i < size; i++) {
                if (isOf(kindOf[i], kind)) {
                    many++;
                }
            }
            return many;
        }
    }

    /** Passes tried aside; the deck stays as it lies. */
    private static final class Trial {
        /** How the cards lie behind so many steps: one row for each step ahead. */
        private final int[][] lies = new int[2 * MOST_TURNS + 1][MOST_CARDS];
        private final int[] path = new int[MOST_SOUGHT];
        private boolean placeWanted = false;
        private int wantedCard = 0;
        private int wantedPlace = 0;
        private int orderedColumn = 0;
        private int otherCard = 0;
        private int steps = 0;

        private void start(Deck deck) {
            layAs(deck.lie, lies[0], deck.size);
        }

        private static void layAs(int[] from, int[] to, int size) {
            for (int k = 0; k < size; k++) {
                to[k] = from[k];
            }
        }

        private int[] passOnce(Deck deck, int column, int misread) {
            deck.sift(deck.lie, lies[0], column, deck.passes, misread);
            return lies[0];
        }

        private int[] passAll(Deck deck, Shelf rows, int r) {
            start(deck);
            int passes = deck.passes;
            for (int k = 0; k < rows.sizeOf(r); k++) {
                deck.sift(lies[0], lies[0], rows.get(r, k), passes, 0);
                passes = onePassMore(passes);
            }
            return lies[0];
        }

        private void wantPlace(int card, int place) {
            placeWanted = true;
            wantedCard = card;
            wantedPlace = place;
        }

        private void wantOrder(int column) {
            placeWanted = false;
            orderedColumn = column;
        }

        /** The fewest passes to what is wanted, by the columns in path; NONE. */
        private int seek(Deck deck) {
            start(deck);
            for (int depth = 0; depth <= MOST_SOUGHT; depth++) {
                if (reaches(deck, 0, depth, deck.passes)) {
                    return depth;
                }
            }
            return NONE;
        }

        private boolean reaches(Deck deck, int level, int depth, int passes) {
            if (level >= depth || level >= MOST_SOUGHT) {
                return placeWanted ? lies[level][wantedPlace] == wantedCard
                        : inOrder(deck, lies[level], passes);
            }
            for (int column = 0; column < COLUMNS; column++) {
                path[level] = column;
                deck.sift(lies[level], lies[level + 1], column, passes, 0);
                if (reaches(deck, level + 1, depth, onePassMore(passes))) {
                    return true;
                }
            }
            return false;
        }

        private boolean inOrder(Deck deck, int[] lie, int passes) {
            int last = 0;
            for (int k = 0; k < deck.size; k++) {
                int reads = deck.readsBehind(lie[k], orderedColumn, passes);
                if (reads < last) {
                    return false;
                }
                last = reads;
            }
            return true;
        }

        private int duelOf(Deck deck, int card, int other, int turns) {
            start(deck);
            wantedCard = card;
            otherCard = other;
            steps = 2 * turns;
            return outcome(deck, 0, deck.passes, -MOST_CARDS, MOST_CARDS);
        }

        /** What both come to; what the one would never let come about is not looked at. */
        private int outcome(Deck deck, int level, int passes, int low, int high) {
            if (level >= steps || level >= 2 * MOST_TURNS) {
                return placeIn(lies[level], otherCard, deck.size)
                        - placeIn(lies[level], wantedCard, deck.size);
            }
            boolean wantsMuch = level % 2 == 0;
            for (int choice = 0; choice <= COLUMNS && low < high; choice++) {
                int then = step(deck, level, choice, passes);
                int comes = outcome(deck, level + 1, then, low, high);
                if (wantsMuch) {
                    low = Math.max(low, comes);
                } else {
                    high = Math.min(high, comes);
                }
            }
            return wantsMuch ? low : high;
        }

        /** A pass by a column, or none: how many passes there were then. */
        private int step(Deck deck, int level, int choice, int passes) {
            if (choice >= COLUMNS) {
                layAs(lies[level], lies[level + 1], deck.size);
                return passes;
            }
            deck.sift(lies[level], lies[level + 1], choice, passes, 0);
            return onePassMore(passes);
        }
    }

    /** What a card can be by the pockets, told in a row of pairs, to which it would come now. */
    private static final class Clues {
        private final int[] supposed = new int[COLUMNS];
        private final int[] parts = new int[POCKETS];

        private int kindsOf(Deck deck, int card, Shelf rows, int r) {
            suppose(deck, card);
            int bits = 0;
            for (int kind = 0; kind < KINDS; kind++) {
                if (fits(kind, deck.passes, rows, r)) {
                    bits |= 1 << kind;
                }
            }
            return bits;
        }

        private int figuresOf(Deck deck, int card, int column, Shelf rows, int r) {
            suppose(deck, card);
            int bits = 0;
            for (int figure = 0; figure < FIGURES; figure++) {
                supposed[column] = figure;
                if (fits(deck.kindOf[card], deck.passes, rows, r)) {
                    bits |= 1 << figure;
                }
            }
            return bits;
        }

        /** How many of the kinds (bits) at the most would come to one pocket. */
        private int greatestPart(Deck deck, int card, int column, int among) {
            suppose(deck, card);
            for (int pocket = 0; pocket < POCKETS; pocket++) {
                parts[pocket] = 0;
            }
            int greatest = 0;
            for (int kind = 0; kind < KINDS; kind++) {
                if ((among >> kind & 1) != 0) {
                    int pocket = reading(kind, supposed, 0, column, deck.passes);
                    parts[pocket]++;
                    greatest = Math.max(greatest, parts[pocket]);
                }
            }
            return greatest;
        }

        private void suppose(Deck deck, int card) {
            for (int column = 0; column < COLUMNS; column++) {
                supposed[column] = deck.figureOf(card, column);
            }
        }

        private boolean fits(int kind, int passes, Shelf rows, int r) {
            for (int k = 0; k + 1 < rows.sizeOf(r); k += 2) {
                if (reading(kind, supposed, 0, rows.get(r, k), passes) != rows.get(r, k + 1)) {
                    return false;
                }
            }
            return true;
        }
    }
}
