/** Boundary cases of promises 21 to 25: passes aside. */
final class EdgePassesTest {
    private static final int BAD = Edge.BAD, STATE = Edge.STATE, NONE = Edge.NONE;
    private static final int NOTHING = Edge.NOTHING, UNLIKE = Edge.UNLIKE, SIZE = Edge.SIZE;

    private EdgePassesTest() {
    }

    public static void main(String[] args) throws Exception {
        Edge.runAll(EdgePassesTest.class);
    }

    // ---- 21 pocket

    static void promise21PocketPasses() {
        CardPasses x = Check.deckOf("w999t999");
        for (int n = 0; n <= 60; n++) {
            Check.due("worn behind " + n, x.pocket(0, 0, n), Math.max(0, 9 - n / 4));
            Check.due("torn behind " + n, x.pocket(1, 2, n), Math.max(0, 9 - n / 4));
        }
        Edge.badAround("passes", Edge::busy, 0, 60, (y, n) -> y.pocket(0, 0, n));
    }

    static void promise21PocketInAllNotFromNowOn() {
        CardPasses x = Check.deckOf("w999c000");
        for (int k = 0; k < 8; k++) {
            x.pass(0);
        }
        Check.due("none", x.pocket(0, 0, 0), 9);
        Check.due("four", x.pocket(0, 0, 4), 8);
    }

    static void promise21PocketColumns() {
        Edge.badAround("column", Edge::busy, 0, 2, (x, column) -> x.pocket(0, column, 0));
        Edge.silent("column 0", Edge::busy, 5, x -> x.pocket(0, 0, 60));
        Edge.silent("column 2", Edge::busy, 3, x -> x.pocket(0, 2, 60));
    }

    static void promise21PocketCards() {
        Edge.badCards("pocket", (x, i) -> x.pocket(i, 0, 0));
        Check.due("last of two", Edge.two().pocket(1, 0, 0), 4);
        Check.due("pocket 10", Edge.fresh().pocket(4, 0, 0), 10);
        Check.due("pocket 0", Edge.fresh().pocket(5, 0, 0), 0);
    }

    static void promise21PocketFiguresAsTheyAre() {
        CardPasses x = Edge.busy();
        Check.due("punched", x.pocket(2, 0, 3), 1);
        x.undo(2);
        Check.due("undone", x.pocket(2, 0, 3), 8);
    }

    // ---- 22 run

    private static CardPasses told(int... columns) {
        CardPasses x = Edge.busy();
        Check.fill(x, 3, columns);
        x.at(2, 39);
        return x;
    }

    static void promise22RunByNone() {
        CardPasses x = Edge.busy();
        Check.due("by none", x.run(1, 5), 2);
        Check.row("by none", x, 5, 2, 0, 1, 5, 4, 3);
    }

    static void promise22RunByTen() {
        // Ten passes: the ninth is the first by which w2 falls into pocket 0, ahead of c1.
        CardPasses x = Check.deckOf("c100w200");
        x.row(0, 8);
        Check.due("eight", x.run(0, 1), 0);
        x.row(0, 9);
        Check.due("nine", x.run(0, 1), 1);
        x.row(0, 10);
        Check.due("ten", x.run(0, 1), 1);
        Check.due("no pass", x.count(1), 0);
        Check.lies("as before", x, 0, 1);
    }

    static void promise22RunGoesOnFromThePassesThereWere() {
        CardPasses x = Check.deckOf("c100w200");
        for (int k = 0; k < 8; k++) {
            x.pass(0);
        }
        x.row(0, 1);
        Check.due("the ninth", x.run(0, 1), 1);
        x.undo(7);
        Check.due("the eighth", x.run(0, 1), 0);
    }

    static void promise22RunSize() {
        Edge.found("eleven", () -> told(0, 0, 0, 0, 0, 0, 0, 0, 0, 0, 0), SIZE, x -> x.run(3, 4));
        Edge.found("forty", Edge::busy, SIZE, x -> x.run(2, 4));
        Check.due("ten", told(0, 1, 2, 0, 1, 2, 0, 1, 2, 0).run(3, 4) >= 0 ? 1 : 0, 1);
    }

    static void promise22RunUnlike() {
        for (int v : new int[] {-1, 3, Edge.MIN, Edge.MAX}) {
            Edge.found("alone " + v, () -> told(v), UNLIKE, x -> x.run(3, 4));
            Edge.found("last " + v, () -> told(0, 1, 2, 0, 1, 2, 0, 1, 2, v), UNLIKE, x -> x.run(3, 3));
            Edge.found("first " + v, () -> told(v, 2), UNLIKE, x -> x.run(3, 2));
        }
    }

    static void promise22RunComesToARowAnew() {
        for (int to : new int[] {0, 1, 2, 3, 4, 5}) {
            CardPasses x = told(0);
            Check.due("to " + to, x.run(3, to), 5);
            Check.row("to " + to, x, to, 5, 2, 1, 0, 3, 4);
            Check.due("rows", x.count(7), to < 4 ? 4 : 5);
        }
        CardPasses x = Edge.two();
        Check.fill(x, 0, 2, 2, 2);
        Check.due("to itself, shorter", x.run(0, 0), 0);
        Check.row("to itself, shorter", x, 0, 0, 1);
    }

    static void promise22RunInThisOrder() {
        Edge.badAround("row", Edge::busy, 0, 5, (x, r) -> x.run(r, 4));
        Edge.badAround("to", Edge::busy, 0, 5, (x, r) -> x.run(1, r));
        Edge.badAround("BAD ahead of STATE", Edge::noCards, 0, 5, (x, r) -> x.run(r, 0));
        Edge.badAround("BAD ahead of STATE", Edge::noCards, 0, 5, (x, r) -> x.run(0, r));
        Edge.refused("BAD ahead of NOTHING", Edge::busy, BAD, x -> x.run(5, 6));
        Edge.refused("STATE", Edge::noCards, STATE, x -> x.run(0, 1));
        Edge.refused("STATE ahead of NOTHING", Edge::noCards, STATE, x -> x.run(5, 1));
        Edge.found("NOTHING", Edge::busy, NOTHING, x -> x.run(3, 0));
        Edge.found("NOTHING by itself", Edge::busy, NOTHING, x -> x.run(3, 3));
        Edge.found("SIZE ahead of UNLIKE", Edge::busy, SIZE, x -> x.run(2, 2));
        Edge.found("SIZE ahead of UNLIKE", () -> told(9, 9, 9, 9, 9, 9, 9, 9, 9, 9, 9), SIZE, x -> x.run(3, 4));
    }

    static void promise22RunLeavesAskedAlone() {
        CardPasses x = told(1, 2);
        x.run(3, 4);
        Check.due("asked", x.asked(), Edge.MAX);
        Check.due("deeds", x.count(2), 4);
        Check.lies("as before", x, 2, 0, 1, 5, 4, 3);
    }

    // ---- 23 fewest

    static void promise23FewestCards() {
        Edge.badCards("fewest", (x, i) -> x.fewest(i, 0, 5));
    }

    static void promise23FewestPlaces() {
        Edge.badAround("place of six", Edge::busy, 0, 5, (x, place) -> x.fewest(0, place, 5));
        Edge.badAround("place of two", Edge::two, 0, 1, (x, place) -> x.fewest(0, place, 5));
        CardPasses x = Edge.fresh();
        Check.due("on top", x.fewest(0, 0, 0), 0);
        Check.due("last", x.fewest(5, 5, 0), 0);
        Check.due("last by one pass", x.fewest(4, 5, 0), 1);
        Check.row("by column 0", x, 0, 0);
    }

    static void promise23FewestRows() {
        Edge.badAround("row", Edge::busy, 0, 5, (x, r) -> x.fewest(0, 0, r));
        for (int r = 0; r <= 5; r++) {
            CardPasses x = Edge.busy();
            Check.due("to row " + r, x.fewest(5, 0, r), 1);
            Check.row("to row " + r, x, r, 0);
            Check.due("asks no more of it", x.fewest(2, 0, r), 0);
            Check.row("by none", x, r);
        }
    }

    private static CardPasses wornBehind(int passes) {
        // Only by the ninth pass w2 falls into the pocket ahead of that of c1.
        CardPasses x = Check.deckOf("c111w222");
        for (int k = 0; k < passes; k++) {
            x.pass(1);
        }
        Check.fill(x, 0, 7, 7);
        return x;
    }

    static void promise23FewestFiveAtMost() {
        for (int passes = 4; passes <= 8; passes++) {
            CardPasses x = wornBehind(passes);
            Check.due("behind " + passes, x.fewest(1, 0, 0), 9 - passes);
            Check.row("behind " + passes, x, 0, new int[9 - passes]);
            Check.due("no pass", x.count(1), passes);
        }
        Edge.silent("six", () -> wornBehind(3), NONE, x -> x.fewest(1, 0, 0));
        Edge.silent("nine", () -> wornBehind(0), NONE, x -> x.fewest(0, 1, 5));
    }

    static void promise23FewestTheFirstColumns() {
        CardPasses x = Check.deckOf("c110c100c010");
        Check.due("two", x.fewest(0, 2, 0), 2);
        Check.row("0, 1 ahead of 1, 0", x, 0, 0, 1);
        CardPasses y = Check.deckOf("c211c100");
        Check.due("one", y.fewest(1, 0, 0), 1);
        Check.row("the first of three", y, 0, 0);
        CardPasses z = Check.deckOf("c001c000");
        Check.due("one", z.fewest(1, 0, 0), 1);
        Check.row("the last of three", z, 0, 2);
    }

    static void promise23FewestLeavesTheDeckAndAsked() {
        CardPasses x = Edge.busy();
        x.fewest(5, 0, 0);
        Check.due("asked", x.asked(), Edge.MAX);
        Check.due("deeds", x.count(2), 4);
        Check.lies("as before", x, 2, 0, 1, 5, 4, 3);
    }

    // ---- 24 order

    static void promise24OrderColumns() {
        Edge.badAround("column", Edge::busy, 0, 2, (x, column) -> x.order(column, 5));
        for (int column = 0; column <= 2; column++) {
            CardPasses x = Edge.fresh();
            Check.due("column " + column, x.order(column, 5), 1);
            Check.row("column " + column, x, 5, column);
        }
    }

    static void promise24OrderRows() {
        Edge.badAround("row", Edge::busy, 0, 5, (x, r) -> x.order(0, r));
        for (int r = 0; r <= 5; r++) {
            CardPasses x = Edge.busy();
            Check.due("to row " + r, x.order(1, r), 1);
            Check.row("to row " + r, x, r, 1);
        }
    }

    static void promise24OrderWithoutCards() {
        Edge.refused("no cards", Edge::noCards, STATE, x -> x.order(0, 0));
        Edge.refused("no cards", CardPasses::new, STATE, x -> x.order(2, 5));
        Edge.badAround("BAD ahead of STATE", Edge::noCards, 0, 2, (x, column) -> x.order(column, 0));
        Edge.badAround("BAD ahead of STATE", Edge::noCards, 0, 5, (x, r) -> x.order(0, r));
    }

    private static void order(String signs, int due, int... columns) {
        CardPasses x = Check.deckOf(signs);
        Check.fill(x, 0, 8);
        Check.due("order of " + signs, x.order(0, 0), due);
        Check.row("order of " + signs, x, 0, columns);
    }

    static void promise24OrderNeverFalls() {
        order("c111c111", 0);
        order("c111c222t000", 0);
        order("c000c999", 0);
        order("c999c000", 1, 0);
        order("t000c999", 1, 0);
        order("c111c222c333c444c555c444", 1, 0);
        order("c111c000c222c333c444c555", 1, 0);
        // What they read, not their figures: a master that reads 0 for 9.
        order("m900c100", 0);
        order("c100m900", 1, 0);
    }

    static void promise24OrderTheFirstColumns() {
        // Both by column 1 and by column 2 what they read of column 0 is in order, too.
        order("c211c100", 1, 0);
        CardPasses x = Check.deckOf("c211c100");
        Check.due("of column 2", x.order(2, 0), 1);
        Check.row("of column 2", x, 0, 0);
    }

    static void promise24OrderByWhatTheyReadThen() {
        // A fourth pass wears w2 down to c1; behind three a pass by any column is enough.
        CardPasses x = Check.deckOf("c000w200c100");
        x.pass(1);
        x.pass(1);
        x.pass(1);
        Check.lies("as at first", x, 0, 1, 2);
        Check.due("one", x.order(0, 0), 1);
        Check.row("one", x, 0, 0);
        // A fourth pass wears w1 below c1, which lies ahead of it: one more must follow.
        CardPasses y = Check.deckOf("c100w100c000");
        y.pass(1);
        y.pass(1);
        y.pass(1);
        Check.due("two", y.order(0, 0), 2);
        Check.row("two", y, 0, 0, 0);
    }

    static void promise24OrderAndFewestByTurns() {
        CardPasses x = Edge.fresh();
        for (int k = 0; k < 2; k++) {
            Check.due("fewest", x.fewest(0, 0, 0), 0);
            Check.row("fewest", x, 0);
            Check.due("order", x.order(1, 0), 1);
            Check.row("order", x, 0, 1);
        }
    }

    static void promise24OrderLeavesTheDeckAndAsked() {
        CardPasses x = Edge.busy();
        x.order(2, 0);
        Check.due("asked", x.asked(), Edge.MAX);
        Check.due("deeds", x.count(2), 4);
        Check.lies("as before", x, 2, 0, 1, 5, 4, 3);
    }

    // ---- 25 columns

    static void promise25ColumnsFromNoneToAll() {
        CardPasses x = Check.deckOf("c111c000");
        Check.fill(x, 0, 1, 0);
        Check.due("all", x.columns(0), 7);
        Check.fill(x, 0, 0, 1);
        Check.due("none", x.columns(0), 0);
        CardPasses y = Check.deckOf("c011c100");
        Check.fill(y, 0, 1, 0);
        Check.due("1 and 2", y.columns(0), 6);
        Check.fill(y, 0, 0, 1);
        Check.due("0", y.columns(0), 1);
    }

    static void promise25ColumnsFromNowOn() {
        CardPasses x = told(5, 2, 1, 0, 3, 4);
        Check.due("busy, by column 0", x.columns(3), 1);
        Edge.silent("columns", () -> told(5, 2, 1, 0, 3, 4), 1, y -> y.columns(3));
        CardPasses worn = Check.deckOf("c100w200");
        Check.fill(worn, 0, 1, 0);
        for (int k = 0; k < 7; k++) {
            worn.pass(0);
        }
        Check.due("the eighth", worn.columns(0), 0);
        worn.pass(0);
        Check.due("the ninth", worn.columns(0), 1);
    }

    static void promise25ColumnsSize() {
        Edge.found("none", Edge::busy, SIZE, x -> x.columns(1));
        Edge.found("one too few", () -> told(0, 1, 2, 3, 4), SIZE, x -> x.columns(3));
        Edge.found("one too many", () -> told(0, 1, 2, 3, 4, 5, 0), SIZE, x -> x.columns(3));
        Edge.found("forty", Edge::busy, SIZE, x -> x.columns(2));
        Edge.found("ahead of UNLIKE", () -> told(9, 9, 9, 9, 9), SIZE, x -> x.columns(3));
        Check.due("just as many", told(0, 1, 2, 3, 4, 5).columns(3), 0);
    }

    static void promise25ColumnsUnlike() {
        for (int v : new int[] {-1, 6, 32, 37, Edge.MIN, Edge.MAX}) {
            Edge.found("last " + v, () -> told(0, 1, 2, 3, 4, v), UNLIKE, x -> x.columns(3));
            Edge.found("first " + v, () -> told(v, 1, 2, 3, 4, 5), UNLIKE, x -> x.columns(3));
        }
        Edge.found("twice on top", () -> told(0, 0, 2, 3, 4, 5), UNLIKE, x -> x.columns(3));
        Edge.found("twice at last", () -> told(0, 1, 2, 3, 5, 5), UNLIKE, x -> x.columns(3));
        Edge.found("the first at last again", () -> told(0, 1, 2, 3, 4, 0), UNLIKE, x -> x.columns(3));
    }

    static void promise25ColumnsInThisOrder() {
        Edge.badAround("row", Edge::busy, 0, 5, (x, r) -> x.columns(r));
        Edge.badAround("BAD ahead of STATE", Edge::noCards, 0, 5, (x, r) -> x.columns(r));
        Edge.refused("STATE", Edge::noCards, STATE, x -> x.columns(0));
        Edge.refused("STATE ahead of NOTHING", Edge::noCards, STATE, x -> x.columns(5));
        Edge.refused("STATE ahead of SIZE", Edge::noCards, STATE, x -> x.columns(1));
        Edge.found("NOTHING", Edge::busy, NOTHING, x -> x.columns(5));
    }
}
