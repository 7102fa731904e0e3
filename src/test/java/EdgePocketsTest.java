/** Boundary cases of promises 26 to 28: by its pockets. */
final class EdgePocketsTest {
    private static final int BAD = Edge.BAD, NONE = Edge.NONE, MIN = Edge.MIN, MAX = Edge.MAX;
    private static final int NOTHING = Edge.NOTHING, UNLIKE = Edge.UNLIKE, SIZE = Edge.SIZE;

    private EdgePocketsTest() {
    }

    public static void main(String[] args) throws Exception {
        Edge.runAll(EdgePocketsTest.class);
    }

    private static CardPasses told(int... pairs) {
        CardPasses x = Edge.busy();
        Check.fill(x, 3, pairs);
        x.at(2, 39);
        return x;
    }

    private static CardPasses sized(int n) {
        CardPasses x = Edge.busy();
        x.row(3, n);
        return x;
    }

    private interface Clue {
        int answer(CardPasses x, int i, int r);
    }

    // ---- what all three refuse

    private static void numbers(Clue clue) {
        Edge.badCards("clue", (x, i) -> clue.answer(x, i, 0));
        Edge.badAround("row", Edge::busy, 0, 5, (x, r) -> clue.answer(x, 0, r));
        Edge.badAround("row without cards", Edge::noCards, 0, 5, (x, r) -> clue.answer(x, 0, r));
    }

    private static void nothing(Clue clue) {
        Edge.found("missing", Edge::busy, NOTHING, x -> clue.answer(x, 0, 3));
        Edge.found("missing", Edge::busy, NOTHING, x -> clue.answer(x, 5, 5));
        Edge.refused("behind BAD", Edge::busy, BAD, x -> clue.answer(x, 6, 5));
        Edge.refused("behind BAD without cards", Edge::noCards, BAD, x -> clue.answer(x, 0, 5));
    }

    private static void sizes(Clue clue) {
        for (int n : new int[] {1, 3, 15, 17, 18, 39, 40}) {
            Edge.found("size " + n, () -> sized(n), SIZE, x -> clue.answer(x, 0, 3));
            Edge.refused("size " + n + " behind BAD", () -> sized(n), BAD, x -> clue.answer(x, 6, 3));
        }
        for (int n = 0; n <= 16; n += 2) {
            Check.due("size " + n, clue.answer(sized(n), 0, 3) != CardPasses.FINDING ? 1 : 0, 1);
        }
    }

    private static void values(Clue clue) {
        for (int v : new int[] {-1, 3, 10, MIN, MAX}) {
            Edge.found("column " + v, () -> told(v, 0), UNLIKE, x -> clue.answer(x, 0, 3));
            Edge.found("the last column " + v, () -> told(0, 0, 0, 0, 0, 0, 0, 0, 0, 0, 0, 0, 0, 0, v, 0), UNLIKE,
                    x -> clue.answer(x, 0, 3));
        }
        for (int v : new int[] {-1, 11, MIN, MAX}) {
            Edge.found("pocket " + v, () -> told(0, v), UNLIKE, x -> clue.answer(x, 0, 3));
            Edge.found("the last pocket " + v, () -> told(0, 0, 0, 0, 0, 0, 0, 0, 0, 0, 0, 0, 0, 0, 0, v), UNLIKE,
                    x -> clue.answer(x, 0, 3));
        }
        for (int v : new int[] {0, 10}) {
            Check.due("pocket " + v, clue.answer(told(2, v), 0, 3) != CardPasses.FINDING ? 1 : 0, 1);
        }
        Edge.found("SIZE ahead of UNLIKE", () -> told(3, 11, 3), SIZE, x -> clue.answer(x, 0, 3));
        Edge.refused("BAD ahead of UNLIKE", () -> told(3, 11), BAD, x -> clue.answer(x, 6, 3));
    }

    static void promise26KindsNumbers() {
        numbers((x, i, r) -> x.kinds(i, r));
    }

    static void promise26KindsNothing() {
        nothing((x, i, r) -> x.kinds(i, r));
    }

    static void promise26KindsSize() {
        sizes((x, i, r) -> x.kinds(i, r));
    }

    static void promise26KindsUnlike() {
        values((x, i, r) -> x.kinds(i, r));
    }

    static void promise27FiguresNumbers() {
        numbers((x, i, r) -> x.figures(i, 0, r));
        Edge.badAround("column", Edge::busy, 0, 2, (x, column) -> x.figures(0, column, 0));
        Edge.badAround("column without cards", Edge::noCards, 0, 2, (x, column) -> x.figures(0, column, 0));
    }

    static void promise27FiguresNothing() {
        nothing((x, i, r) -> x.figures(i, 2, r));
        Edge.refused("behind BAD", Edge::busy, BAD, x -> x.figures(0, 3, 5));
    }

    static void promise27FiguresSize() {
        sizes((x, i, r) -> x.figures(i, 0, r));
        Edge.refused("behind BAD", () -> sized(1), BAD, x -> x.figures(0, -1, 3));
    }

    static void promise27FiguresUnlike() {
        values((x, i, r) -> x.figures(i, 1, r));
        Edge.refused("behind BAD", () -> told(3, 0), BAD, x -> x.figures(0, 3, 3));
    }

    static void promise28NextNumbers() {
        numbers((x, i, r) -> x.next(i, r));
    }

    static void promise28NextNothing() {
        nothing((x, i, r) -> x.next(i, r));
    }

    static void promise28NextSize() {
        sizes((x, i, r) -> x.next(i, r));
    }

    static void promise28NextUnlike() {
        values((x, i, r) -> x.next(i, r));
    }

    // ---- 26 kinds

    private static void kinds(String card, int due, int... pairs) {
        CardPasses x = Check.deckOf(card + "c000");
        Check.fill(x, 0, pairs);
        Check.due("kinds of " + card, x.kinds(0, 0), due);
    }

    static void promise26KindsFromNoneToAll() {
        for (String card : new String[] {"c503", "x174", "w830", "d291", "t046", "m962"}) {
            kinds(card, 63);
        }
        kinds("c111", 63, 0, 1, 1, 1, 2, 1);
        kinds("c111", 0, 0, 2);
        kinds("c111", 0, 0, 10);
        kinds("c000", 63 - 16, 0, 0, 1, 0, 2, 0);
        kinds("c000", 16, 0, 10, 1, 10, 2, 10);
        kinds("c000", 0, 0, 10, 1, 0);
    }

    static void promise26KindsByTheEighthPair() {
        kinds("c503", 61, 0, 5, 0, 5, 0, 5, 0, 5, 0, 5, 0, 5, 0, 5, 0, 5);
        kinds("c503", 0, 0, 5, 0, 5, 0, 5, 0, 5, 0, 5, 0, 5, 0, 5, 0, 6);
        kinds("c503", 1 + 4, 0, 5, 0, 5, 0, 5, 0, 5, 0, 5, 0, 5, 2, 3, 1, 0);
    }

    static void promise26KindsOfNineAndNought() {
        // Of a column with a nine a double reads 9, a master 0.
        kinds("c900", 1 + 4 + 8 + 16, 0, 9);
        kinds("c900", 2 + 32, 0, 0);
    }

    static void promise26KindsAsItWouldComeNow() {
        CardPasses x = Check.deckOf("c111c000");
        Check.fill(x, 0, 0, 0);
        for (int k = 0; k < 4; k++) {
            Check.due("behind " + k, x.kinds(0, 0), 0);
            x.pass(0);
        }
        Check.due("behind four", x.kinds(0, 0), 4 + 16);
    }

    static void promise26KindsChangesNothing() {
        Edge.silent("kinds", () -> told(0, 5), 61, x -> x.kinds(0, 3));
        Edge.silent("no kinds", () -> told(0, 6), 0, x -> x.kinds(0, 3));
    }

    // ---- 27 figures

    private static void figures(String card, int column, int due, int... pairs) {
        CardPasses x = Check.deckOf(card + "c000");
        Check.fill(x, 0, pairs);
        Check.due("figures of " + card, x.figures(0, column, 0), due);
    }

    static void promise27FiguresFromNoneToAll() {
        for (int column = 0; column <= 2; column++) {
            figures("c503", column, 1023);
        }
        figures("c503", 0, 1, 0, 0);
        figures("c503", 0, 1 << 9, 0, 9);
        figures("c503", 0, 0, 0, 10);
        figures("c503", 1, 0, 0, 4);
        figures("c503", 2, 1 << 9, 2, 9);
        figures("c503", 0, 0, 0, 4, 0, 5);
    }

    static void promise27FiguresByTheEighthPair() {
        figures("c503", 0, 16, 0, 4, 0, 4, 0, 4, 0, 4, 0, 4, 0, 4, 0, 4, 0, 4);
        figures("c503", 0, 0, 0, 4, 0, 4, 0, 4, 0, 4, 0, 4, 0, 4, 0, 4, 0, 5);
    }

    static void promise27FiguresOfEachKind() {
        figures("x503", 0, 128, 2, 7);
        figures("x503", 0, 1023, 0, 3);
        figures("d503", 0, 1, 0, 0);
        figures("d503", 1, 63, 0, 5);
        figures("d503", 2, 1 << 9, 1, 9);
        figures("t503", 0, 1, 0, 10);
        figures("t503", 0, 0, 0, 0);
        figures("m503", 0, 1 + (1 << 9), 0, 0);
        figures("m503", 0, 0, 0, 9);
        figures("m503", 0, 1 << 8, 0, 8);
    }

    static void promise27FiguresWornDown() {
        CardPasses x = Check.deckOf("w555t555");
        Check.fill(x, 0, 0, 0);
        for (int passes = 0; passes <= 40; passes++) {
            int worn = Math.min(9, passes / 4);
            int due = (2 << worn) - 1;
            Check.due("worn behind " + passes, x.figures(0, 0, 0), due);
            // A torn one with figure 0 would be thrown out.
            Check.due("torn behind " + passes, x.figures(1, 0, 0), due - 1);
            x.pass(1);
        }
    }

    static void promise27FiguresChangesNothing() {
        Edge.silent("figures", () -> told(0, 5), 32, x -> x.figures(0, 0, 3));
        Edge.silent("no figures", () -> told(0, 10), 0, x -> x.figures(0, 0, 3));
    }

    // ---- 28 next

    private static void next(String card, int due, int part, int... pairs) {
        CardPasses x = Check.deckOf(card + "c000");
        Check.fill(x, 0, pairs);
        Check.due("next of " + card, x.next(0, 0), due);
        Check.due("part of " + card, x.asked(), part);
    }

    static void promise28NextTheFirstColumn() {
        // Alike in all columns.
        next("c111", 0, 6);
        next("c000", 0, 5);
        // Of 350 column 2 (0 3 0 3 10 3) is no better than column 0 (3 0 3 5 3 5).
        next("c350", 0, 3);
    }

    static void promise28NextTheLeastOfGreatestParts() {
        // Of 503: column 0 5 3 5 5 5 5, column 1 0 0 0 3 10 3, column 2 3 5 3 5 3 5.
        next("c503", 1, 3);
        next("c503", 1, 2, 0, 5);
        // Of 112: column 0 1 2 1 1 1 1, column 1 1 1 1 2 1 2, column 2 2 1 2 2 2 2.
        next("c112", 1, 4);
        // Of 530: column 0 5 0 5 5 5 5, column 1 3 3 3 3 3 3, column 2 0 5 0 5 10 5.
        next("c530", 2, 3);
    }

    static void promise28NextAsOftenAsWanted() {
        CardPasses x = Check.deckOf("c000t000");
        x.row(0, 0);
        for (int k = 0; k < 3; k++) {
            Check.due("next", x.next(k % 2, 0), 0);
            Check.due("part", x.asked(), 5);
        }
    }

    static void promise28NextOneKind() {
        next("c503", 0, 1, 1, 10);
    }

    static void promise28NextNoKind() {
        Edge.silent("no kind", () -> told(0, 6), NONE, x -> x.next(0, 3));
        CardPasses x = told(0, 6);
        Check.due("no kind", x.next(0, 3), NONE);
        Check.due("asked stays", x.asked(), MAX);
    }

    static void promise28NextAsItWouldComeNow() {
        CardPasses x = Check.deckOf("c111c000");
        x.row(0, 0);
        for (int k = 0; k < 4; k++) {
            Check.due("behind " + k, x.next(0, 0), 0);
            Check.due("part behind " + k, x.asked(), 6);
            x.pass(0);
        }
        Check.due("behind four", x.next(0, 0), 0);
        Check.due("part behind four", x.asked(), 4);
    }

    static void promise28NextChangesNothingElse() {
        Edge.aside("next", () -> told(0, 5), 1, x -> x.next(0, 3));
        CardPasses x = told(0, 5);
        long upper = x.upper();
        x.next(0, 3);
        Check.due("upper", x.upper(), upper);
    }
}
