/** Boundary cases of promises 2 to 9: rows and texts. */
final class EdgeRowsTest {
    private static final int BAD = Edge.BAD, MIN = Edge.MIN, MAX = Edge.MAX;
    private static final int NOTHING = Edge.NOTHING, BEYOND = Edge.BEYOND, NOUGHT = Edge.NOUGHT, SIZE = Edge.SIZE;

    private EdgeRowsTest() {
    }

    public static void main(String[] args) throws Exception {
        Edge.runAll(EdgeRowsTest.class);
    }

    // ---- 2 row

    static void promise2RowNumbers() {
        CardPasses x = new CardPasses();
        for (int r = 0; r <= 5; r++) {
            Check.due("row " + r, x.row(r, 1), 1);
            Check.due("rows", x.count(7), r + 1);
        }
        Edge.badAround("row", Edge::busy, 0, 5, (y, r) -> y.row(r, 1));
    }

    static void promise2RowSizes() {
        CardPasses x = new CardPasses();
        Check.due("none", x.row(0, 0), 0);
        Check.row("none", x, 0);
        Check.due("one", x.row(0, 1), 1);
        Check.row("one", x, 0, 0);
        Check.due("40", x.row(0, 40), 40);
        Check.row("40", x, 0, new int[40]);
        Edge.refused("41", Edge::busy, BAD, y -> y.row(0, 41));
        Edge.refused("41, missing", Edge::busy, BAD, y -> y.row(5, 41));
        Edge.refused("MAX", Edge::busy, BAD, y -> y.row(0, MAX));
    }

    static void promise2RowBelow0() {
        Edge.found("-1", Edge::busy, SIZE, x -> x.row(0, -1));
        Edge.found("-1, missing", Edge::busy, SIZE, x -> x.row(5, -1));
        Edge.found("MIN", Edge::full, SIZE, x -> x.row(0, MIN));
    }

    static void promise2RowBadAheadOfSize() {
        Edge.refused("row 6 of -1", Edge::busy, BAD, x -> x.row(6, -1));
        Edge.refused("row -1 of -1", Edge::busy, BAD, x -> x.row(-1, -1));
    }

    static void promise2RowAnewIsAllNoughts() {
        CardPasses x = new CardPasses();
        Check.fill(x, 0, 1, 2, 3);
        Check.fill(x, 1, 4, 5, 6);
        x.row(0, 1);
        Check.row("shorter", x, 0, 0);
        x.row(0, 4);
        Check.row("longer", x, 0, 0, 0, 0, 0);
        Check.row("the other one stays", x, 1, 4, 5, 6);
        Check.due("rows", x.count(7), 2);
    }

    // ---- 3 lay

    static void promise3LayPlaces() {
        CardPasses x = Edge.busy();
        Check.told("first", x, x.lay(2, 0, MIN), 0);
        Check.told("first again", x, x.lay(2, 0, 7), MIN);
        Check.told("last", x, x.lay(2, 39, -1), MAX);
        Check.told("last again", x, x.lay(2, 39, 0), -1);
        Check.told("the same", x, x.lay(2, 39, 0), 0);
        for (int i : new int[] {-1, 40, MIN, MAX}) {
            Edge.found("place " + i, Edge::busy, BEYOND, y -> y.lay(2, i, 3));
        }
    }

    static void promise3LayInAnEmptyRow() {
        Edge.found("place 0", Edge::busy, BEYOND, x -> x.lay(1, 0, 3));
        Edge.found("place -1", Edge::busy, BEYOND, x -> x.lay(1, -1, 3));
    }

    static void promise3LayBehindAShorterRow() {
        Edge.found("place 2 of 2", Edge::busy, BEYOND, x -> x.lay(0, 2, 3));
    }

    static void promise3LayNothing() {
        Edge.found("missing", Edge::busy, NOTHING, x -> x.lay(3, 0, 1));
        Edge.found("missing ahead of BEYOND", Edge::busy, NOTHING, x -> x.lay(5, -1, 1));
        Edge.found("missing ahead of BEYOND", Edge::busy, NOTHING, x -> x.lay(5, 40, 1));
    }

    static void promise3LayBad() {
        Edge.badAround("row", Edge::busy, 0, 5, (x, r) -> x.lay(r, 0, 1));
        Edge.refused("ahead of BEYOND", Edge::busy, BAD, x -> x.lay(6, 40, 1));
    }

    // ---- 4 at

    static void promise4AtPlaces() {
        CardPasses x = Edge.busy();
        Check.told("first", x, x.at(2, 0), 0);
        Check.told("last", x, x.at(2, 39), MAX);
        Edge.aside("at", Edge::busy, 1, y -> y.at(2, 38));
        for (int i : new int[] {-1, 40, MIN, MAX}) {
            Edge.found("place " + i, Edge::busy, BEYOND, y -> y.at(2, i));
        }
        Edge.found("place 2 of 2", Edge::busy, BEYOND, y -> y.at(0, 2));
    }

    static void promise4AtOfAnEmptyRow() {
        Edge.found("place 0", Edge::busy, BEYOND, x -> x.at(1, 0));
    }

    static void promise4AtNothing() {
        Edge.found("missing", Edge::busy, NOTHING, x -> x.at(3, 0));
        Edge.found("missing ahead of BEYOND", Edge::busy, NOTHING, x -> x.at(3, -1));
    }

    static void promise4AtBad() {
        Edge.badAround("row", Edge::busy, 0, 5, (x, r) -> x.at(r, 0));
        Edge.refused("ahead of BEYOND", Edge::busy, BAD, x -> x.at(-1, -1));
    }

    // ---- 5 tear

    static void promise5TearAnyThatIsThere() {
        CardPasses x = Edge.full();
        for (int r = 0; r < 6; r++) {
            Check.due("tear " + r, x.tear(r), 1);
            Check.due("rows", x.count(7), 5 - r);
        }
        x.row(0, 0);
        Check.due("an empty one", x.tear(0), 1);
        Check.finding("torn", x, x.at(0, 0), NOTHING);
    }

    static void promise5TearLeavesAskedAlone() {
        CardPasses x = Edge.busy();
        x.tear(0);
        Check.due("asked", x.asked(), MAX);
    }

    static void promise5TearNothing() {
        Edge.found("missing", Edge::busy, NOTHING, x -> x.tear(3));
        Edge.found("missing", Edge::noCards, NOTHING, x -> x.tear(5));
        CardPasses x = Edge.busy();
        x.tear(2);
        Check.finding("twice", x, x.tear(2), NOTHING);
        x.row(2, 40);
        Check.told("there again, all noughts", x, x.at(2, 39), 0);
    }

    static void promise5TearBad() {
        Edge.badAround("row", Edge::busy, 0, 5, (x, r) -> x.tear(r));
    }

    // ---- 6 copy

    private static CardPasses laid() {
        CardPasses x = Edge.busy();
        Check.fill(x, 3, 1, 2, 3, 4, 5);
        Check.fill(x, 4, 7, 8, 9);
        x.at(4, 0);
        return x;
    }

    static void promise6CopyAsManyAsThereAre() {
        CardPasses x = laid();
        Check.due("from the first on", x.copy(3, 0, 4, 0, 3), 1);
        Check.row("from the first on", x, 4, 1, 2, 3);
        Check.due("up to the last", x.copy(3, 2, 4, 0, 3), 1);
        Check.row("up to the last", x, 4, 3, 4, 5);
        Check.row("what they came from", x, 3, 1, 2, 3, 4, 5);
        Check.due("the last to the last", x.copy(4, 2, 3, 4, 1), 1);
        Check.row("the last to the last", x, 3, 1, 2, 3, 4, 5);
        Check.due("all forty", x.copy(2, 0, 2, 0, 40), 1);
        Check.told("all forty", x, x.at(2, 39), MAX);
    }

    static void promise6CopyWithinItselfAsIfTakenAhead() {
        CardPasses x = laid();
        x.copy(3, 0, 3, 1, 4);
        Check.row("up by one", x, 3, 1, 1, 2, 3, 4);
        x.copy(3, 1, 3, 0, 4);
        Check.row("down by one", x, 3, 1, 2, 3, 4, 4);
        x.copy(3, 0, 3, 2, 3);
        Check.row("up by two", x, 3, 1, 2, 1, 2, 3);
        x.copy(3, 2, 3, 0, 3);
        Check.row("down by two", x, 3, 1, 2, 3, 2, 3);
        x.copy(2, 1, 2, 0, 39);
        Check.told("the last of forty came down", x, x.at(2, 38), MAX);
        Check.told("the last of forty stays", x, x.at(2, 39), MAX);
    }

    static void promise6CopyNoMoreThanTold() {
        CardPasses x = laid();
        x.copy(3, 0, 3, 2, 2);
        Check.row("up, all else stays", x, 3, 1, 2, 1, 2, 5);
        x = laid();
        x.copy(3, 3, 3, 1, 1);
        Check.row("down, all else stays", x, 3, 1, 4, 3, 4, 5);
        x = laid();
        x.copy(3, 0, 4, 1, 1);
        Check.row("up to another one", x, 4, 7, 1, 9);
        x.copy(3, 4, 4, 1, 1);
        Check.row("down to another one", x, 4, 7, 5, 9);
        x.copy(3, 1, 4, 1, 1);
        Check.row("straight to another one", x, 4, 7, 2, 9);
    }

    static void promise6CopyNone() {
        Edge.silent("none of the first", EdgeRowsTest::laid, 1, x -> x.copy(3, 0, 4, 0, 0));
        Edge.silent("none behind the last", EdgeRowsTest::laid, 1, x -> x.copy(3, 5, 4, 3, 0));
        Edge.silent("none of empty ones", EdgeRowsTest::laid, 1, x -> x.copy(1, 0, 1, 0, 0));
        Edge.found("none farther behind", EdgeRowsTest::laid, BEYOND, x -> x.copy(3, 6, 4, 0, 0));
        Edge.found("none to farther behind", EdgeRowsTest::laid, BEYOND, x -> x.copy(3, 0, 4, 4, 0));
        Edge.found("none ahead", EdgeRowsTest::laid, BEYOND, x -> x.copy(3, -1, 4, 0, 0));
        Edge.found("none to ahead", EdgeRowsTest::laid, BEYOND, x -> x.copy(3, 0, 4, -1, 0));
    }

    static void promise6CopySizeBelow0() {
        Edge.found("-1", EdgeRowsTest::laid, SIZE, x -> x.copy(3, 0, 4, 0, -1));
        Edge.found("MIN", EdgeRowsTest::laid, SIZE, x -> x.copy(3, 0, 4, 0, MIN));
        Edge.found("ahead of NOTHING", EdgeRowsTest::laid, SIZE, x -> x.copy(5, 0, 5, 0, -1));
        Edge.found("ahead of BEYOND", EdgeRowsTest::laid, SIZE, x -> x.copy(3, 6, 4, 6, -1));
    }

    static void promise6CopyNothingOfEither() {
        Edge.found("from", EdgeRowsTest::laid, NOTHING, x -> x.copy(5, 0, 4, 0, 1));
        Edge.found("to", EdgeRowsTest::laid, NOTHING, x -> x.copy(3, 0, 5, 0, 1));
        Edge.found("both", EdgeRowsTest::laid, NOTHING, x -> x.copy(5, 0, 5, 0, 0));
        Edge.found("from, ahead of BEYOND", EdgeRowsTest::laid, NOTHING, x -> x.copy(5, 0, 4, 3, 1));
        Edge.found("to, ahead of BEYOND", EdgeRowsTest::laid, NOTHING, x -> x.copy(3, 5, 5, 0, 1));
    }

    static void promise6CopyBeyond() {
        Edge.found("one too many", EdgeRowsTest::laid, BEYOND, x -> x.copy(4, 0, 3, 0, 4));
        Edge.found("one too many to", EdgeRowsTest::laid, BEYOND, x -> x.copy(3, 0, 4, 0, 4));
        Edge.found("from one too far", EdgeRowsTest::laid, BEYOND, x -> x.copy(4, 1, 3, 0, 3));
        Edge.found("to one too far", EdgeRowsTest::laid, BEYOND, x -> x.copy(3, 0, 4, 1, 3));
        Edge.found("from -1", EdgeRowsTest::laid, BEYOND, x -> x.copy(3, -1, 4, 0, 1));
        Edge.found("to -1", EdgeRowsTest::laid, BEYOND, x -> x.copy(3, 0, 4, -1, 1));
        Edge.found("of an empty one", EdgeRowsTest::laid, BEYOND, x -> x.copy(1, 0, 4, 0, 1));
        Edge.found("41", EdgeRowsTest::laid, BEYOND, x -> x.copy(2, 0, 2, 0, 41));
    }

    static void promise6CopyBeyondAllInts() {
        Edge.found("n MAX", EdgeRowsTest::laid, BEYOND, x -> x.copy(3, 1, 4, 1, MAX));
        Edge.found("i MAX", EdgeRowsTest::laid, BEYOND, x -> x.copy(3, MAX, 4, 0, 1));
        Edge.found("j MAX", EdgeRowsTest::laid, BEYOND, x -> x.copy(3, 0, 4, MAX, 1));
        Edge.found("all MAX", EdgeRowsTest::laid, BEYOND, x -> x.copy(3, MAX, 4, MAX, MAX));
        Edge.found("i MIN", EdgeRowsTest::laid, BEYOND, x -> x.copy(3, MIN, 4, 0, MAX));
        Edge.found("j MIN", EdgeRowsTest::laid, BEYOND, x -> x.copy(3, 0, 4, MIN, 1));
    }

    static void promise6CopyBad() {
        Edge.badAround("from", EdgeRowsTest::laid, 0, 5, (x, r) -> x.copy(r, 0, 4, 0, 1));
        Edge.badAround("to", EdgeRowsTest::laid, 0, 5, (x, r) -> x.copy(3, 0, r, 0, 1));
        Edge.refused("ahead of SIZE", EdgeRowsTest::laid, BAD, x -> x.copy(6, 0, 4, 0, -1));
        Edge.refused("to, ahead of SIZE", EdgeRowsTest::laid, BAD, x -> x.copy(3, 0, 6, 0, -1));
        Edge.refused("to, ahead of NOTHING", EdgeRowsTest::laid, BAD, x -> x.copy(5, 0, 6, 0, 1));
    }

    // ---- 7 mean

    private static void mean(int due, int... values) {
        CardPasses x = new CardPasses();
        Check.fill(x, 0, values);
        Check.told("mean of " + java.util.Arrays.toString(values), x, x.mean(0), due);
    }

    static void promise7MeanCut() {
        mean(3, 3);
        mean(0, 1, 0);
        mean(0, 0, -1);
        mean(1, 1, 2);
        mean(-1, -1, -2);
        mean(0, 2, 0, 0);
        mean(0, -2, 0, 0);
        mean(1, 3, 0, 0);
        mean(-1, -3, 0, 0);
    }

    static void promise7MeanOfTheGreatest() {
        mean(MAX, MAX);
        mean(MIN, MIN);
        mean(MAX, MAX, MAX);
        mean(MIN, MIN, MIN, MIN);
        mean(0, MIN, MAX);
        int[] forty = new int[40];
        java.util.Arrays.fill(forty, MAX);
        mean(MAX, forty);
        java.util.Arrays.fill(forty, MIN);
        mean(MIN, forty);
        forty[39] = MAX;
        mean(-2040109465, forty);
    }

    static void promise7MeanOfNone() {
        Edge.found("empty", Edge::busy, NOUGHT, x -> x.mean(1));
        Edge.found("missing", Edge::busy, NOTHING, x -> x.mean(3));
        Edge.badAround("row", Edge::busy, 0, 5, (x, r) -> x.mean(r));
    }

    static void promise7MeanLeavesAllElse() {
        Edge.aside("mean", Edge::busy, 1, x -> x.mean(0));
        CardPasses x = Edge.busy();
        long upper = x.upper();
        x.mean(0);
        Check.due("upper", x.upper(), upper);
    }

    // ---- 8 text

    static void promise8TextNumbers() {
        CardPasses x = new CardPasses();
        for (int t = 0; t <= 3; t++) {
            Check.due("text " + t, x.text(t, 1), 1);
            Check.due("texts", x.count(8), t + 1);
        }
        Edge.badAround("text", Edge::busy, 0, 3, (y, t) -> y.text(t, 1));
    }

    static void promise8TextSizes() {
        CardPasses x = new CardPasses();
        Check.due("none", x.text(0, 0), 0);
        Check.due("one", x.text(0, 1), 1);
        Check.due("60", x.text(0, 60), 60);
        for (int i = 0; i < 60; i++) {
            Check.due("blank " + i, x.put(0, i, 65), 1032);
        }
        Edge.refused("61", Edge::busy, BAD, y -> y.text(0, 61));
        Edge.refused("61, missing", Edge::busy, BAD, y -> y.text(3, 61));
        Edge.refused("MAX", Edge::busy, BAD, y -> y.text(0, MAX));
    }

    static void promise8TextBelow0() {
        Edge.found("-1", Edge::busy, SIZE, x -> x.text(0, -1));
        Edge.found("-1, missing", Edge::busy, SIZE, x -> x.text(3, -1));
        Edge.found("MIN", Edge::full, SIZE, x -> x.text(0, MIN));
        Edge.refused("text 4 of -1", Edge::busy, BAD, x -> x.text(4, -1));
        Edge.refused("text -1 of -1", Edge::busy, BAD, x -> x.text(-1, -1));
    }

    static void promise8TextAnewIsAllBlanks() {
        CardPasses x = new CardPasses();
        Check.write(x, 0, "abc");
        Check.write(x, 1, "def");
        x.text(0, 1);
        Check.due("shorter", x.put(0, 0, 65), 1032);
        Check.finding("no more", x, x.put(0, 1, 65), BEYOND);
        x.text(0, 4);
        for (int i = 0; i < 4; i++) {
            Check.due("longer", x.put(0, i, 65), 1032);
        }
        Check.due("the other one stays", x.put(1, 2, 65), 1000 + 'f');
    }

    static void promise8TextLeavesTheDeck() {
        CardPasses x = Edge.busy();
        x.text(0, 0);
        Check.due("cards", x.count(0), 6);
        Check.due("deeds", x.count(2), 4);
        Check.due("gone on", x.on(0), 1);
    }

    // ---- 9 put

    static void promise9PutCutToAByte() {
        int[][] bytes = {{0, 0}, {127, 127}, {128, -128}, {255, -1}, {256, 0}, {-1, -1}, {-128, -128},
            {-129, 127}, {MAX, -1}, {MIN, 0}, {383, 127}, {384, -128}, {-256, 0}};
        CardPasses x = new CardPasses();
        x.text(0, 1);
        int was = 32;
        for (int[] b : bytes) {
            Check.due("put " + b[0], x.put(0, 0, b[0]), 1000 + was);
            was = b[1];
        }
        Check.due("the last", x.put(0, 0, 0), 1000 + was);
    }

    static void promise9PutPlaces() {
        CardPasses x = Edge.full();
        Check.due("first", x.put(3, 0, 65), 1032);
        Check.due("first again", x.put(3, 0, 65), 1065);
        Check.due("last", x.put(3, 59, 66), 1032);
        Check.due("last again", x.put(3, 59, 66), 1066);
        for (int i : new int[] {-1, 60, MIN, MAX}) {
            Edge.found("place " + i, Edge::full, BEYOND, y -> y.put(3, i, 65));
        }
        Edge.found("place 3 of 3", Edge::busy, BEYOND, y -> y.put(1, 3, 65));
        Edge.found("place 0 of none", Edge::busy, BEYOND, y -> y.put(2, 0, 65));
    }

    static void promise9PutNothing() {
        Edge.found("missing", Edge::busy, NOTHING, x -> x.put(3, 0, 65));
        Edge.found("missing ahead of BEYOND", Edge::busy, NOTHING, x -> x.put(3, -1, 65));
    }

    static void promise9PutBad() {
        Edge.badAround("text", Edge::busy, 0, 3, (x, t) -> x.put(t, 0, 65));
        Edge.refused("ahead of BEYOND", Edge::busy, BAD, x -> x.put(4, 60, 65));
    }

    static void promise9PutLeavesAskedAlone() {
        CardPasses x = Edge.busy();
        x.put(1, 0, 65);
        Check.due("asked", x.asked(), MAX);
    }
}
