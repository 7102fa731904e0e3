/** Boundary cases of promises 14 to 20: deeds, undone, kept, gone on from. */
final class EdgeDeedsTest {
    private static final int BAD = Edge.BAD, FULL = Edge.FULL, STATE = Edge.STATE;
    private static final int NOTHING = Edge.NOTHING, MIN = Edge.MIN, MAX = Edge.MAX;

    private EdgeDeedsTest() {
    }

    public static void main(String[] args) throws Exception {
        Edge.runAll(EdgeDeedsTest.class);
    }

    /** Card 0 is c503, the deck lies as at first, and there is room for one deed more. */
    private static CardPasses oneLess() {
        CardPasses x = Edge.fresh();
        for (int k = 0; k < 39; k++) {
            x.turn();
        }
        return x;
    }

    /** The last deed that is allowed, and the first that is not. */
    private static void fortieth(String call, int due, Edge.Call deed) {
        CardPasses x = oneLess();
        Check.due(call + ", the fortieth", deed.answer(x), due);
        Check.due(call + ", deeds", x.count(2), 40);
        Check.due(call + ", the first too many", x.turn(), FULL);
        Edge.refused(call + ", full", Edge::full, FULL, deed);
        CardPasses y = Edge.full();
        y.undo(39);
        Check.due(call + ", room again", deed.answer(y) >= 0 ? 1 : 0, 1);
        Check.due(call + ", full again", deed.answer(y) < 0 ? 1 : 0, 1);
    }

    // ---- 14 pass

    static void promise14PassColumns() {
        Edge.badAround("column", Edge::busy, 0, 2, (x, column) -> x.pass(column));
        int[] tops = {5, 0, 5};
        for (int column = 0; column <= 2; column++) {
            CardPasses x = Edge.fresh();
            Check.due("column " + column, x.pass(column), tops[column]);
            Check.due("one pass", x.count(1), 1);
            Check.due("one deed", x.count(2), 1);
        }
    }

    static void promise14PassWithoutCards() {
        Edge.refused("no cards", Edge::noCards, STATE, x -> x.pass(0));
        Edge.refused("no cards", CardPasses::new, STATE, x -> x.pass(2));
        Edge.badAround("ahead of STATE", Edge::noCards, 0, 2, (x, column) -> x.pass(column));
    }

    static void promise14PassFull() {
        fortieth("pass", 5, x -> x.pass(0));
    }

    static void promise14PassBadAheadOfFull() {
        Edge.badAround("full", Edge::full, 0, 2, (x, column) -> x.pass(column));
    }

    static void promise14PassFortyTimes() {
        CardPasses x = Edge.two();
        for (int k = 1; k <= 40; k++) {
            Check.due("pass " + k, x.pass(k % 3), 0);
            Check.due("passes " + k, x.count(1), k);
        }
        Check.due("no more", x.pass(0), FULL);
        Check.due("passes", x.count(1), 40);
    }

    // ---- 15 turn

    static void promise15TurnAllTheOtherWayRound() {
        CardPasses two = Edge.two();
        Check.due("two", two.turn(), 1);
        Check.lies("two", two, 1, 0);
        CardPasses three = Check.deckOf("c111c222c333");
        Check.due("three", three.turn(), 2);
        Check.lies("three", three, 2, 1, 0);
        CardPasses six = Edge.fresh();
        Check.due("six", six.turn(), 5);
        Check.lies("six", six, 5, 4, 3, 2, 1, 0);
        Check.due("six again", six.turn(), 0);
        Check.lies("six again", six, 0, 1, 2, 3, 4, 5);
        Check.due("no pass", six.count(1), 0);
    }

    static void promise15TurnWithoutCards() {
        Edge.refused("no cards", Edge::noCards, STATE, x -> x.turn());
        Edge.refused("no cards", CardPasses::new, STATE, x -> x.turn());
    }

    static void promise15TurnFull() {
        fortieth("turn", 0, x -> x.turn());
    }

    // ---- 16 lift

    static void promise16LiftFrom1ToOneLess() {
        for (int n = 1; n <= 5; n++) {
            CardPasses x = Edge.fresh();
            Check.due("lift " + n, x.lift(n), n);
            for (int k = 0; k < 6; k++) {
                Check.told("lift " + n, x, x.card((n + k) % 6, 4), k);
            }
        }
        Check.due("one of two", Edge.two().lift(1), 1);
        Edge.badAround("of six", Edge::busy, 1, 5, (x, n) -> x.lift(n));
        Edge.badAround("of two", Edge::two, 1, 1, (x, n) -> x.lift(n));
    }

    static void promise16LiftStateAheadOfBad() {
        for (int n : new int[] {-1, 0, 1, 5, 6, MIN, MAX}) {
            Edge.refused("lift " + n, Edge::noCards, STATE, x -> x.lift(n));
            Edge.refused("lift " + n, CardPasses::new, STATE, x -> x.lift(n));
        }
    }

    static void promise16LiftFull() {
        fortieth("lift 1", 4, x -> x.lift(1));
        fortieth("lift 5", 0, x -> x.lift(5));
    }

    static void promise16LiftBadAheadOfFull() {
        Edge.badAround("full", Edge::full, 1, 5, (x, n) -> x.lift(n));
    }

    // ---- 17 punch

    static void promise17PunchFrom0To9() {
        CardPasses x = Edge.fresh();
        Check.due("0", x.punch(0, 0, 0), 5);
        Check.told("0", x, x.card(0, 1), 0);
        Check.due("9", x.punch(0, 0, 9), 0);
        Check.told("9", x, x.card(0, 1), 9);
        Check.told("the one beside it", x, x.card(0, 2), 0);
        Edge.badAround("figure", Edge::busy, 0, 9, (y, v) -> y.punch(0, 0, v));
    }

    static void promise17PunchColumns() {
        CardPasses x = Edge.fresh();
        Check.due("column 0", x.punch(5, 0, 1), 9);
        Check.due("column 2", x.punch(5, 2, 1), 2);
        Check.told("column 2", x, x.card(5, 3), 1);
        Edge.badAround("column", Edge::busy, 0, 2, (y, column) -> y.punch(0, column, 7));
    }

    static void promise17PunchCards() {
        Edge.badCards("punch", (x, i) -> x.punch(i, 0, 7));
        CardPasses x = Edge.two();
        Check.due("first", x.punch(0, 0, 7), 1);
        Check.due("last", x.punch(1, 2, 7), 6);
    }

    static void promise17PunchAsItIs() {
        Edge.refused("as read", Edge::fresh, STATE, x -> x.punch(0, 0, 5));
        Edge.refused("0", Edge::fresh, STATE, x -> x.punch(0, 1, 0));
        Edge.refused("9", Edge::fresh, STATE, x -> x.punch(5, 0, 9));
        Edge.refused("as punched", Edge::busy, STATE, x -> x.punch(2, 0, 1));
        CardPasses x = Edge.busy();
        Check.due("as it was read", x.punch(2, 0, 8), 1);
    }

    static void promise17PunchLiesAndPassesAsBefore() {
        CardPasses x = Edge.busy();
        x.punch(0, 0, 0);
        Check.lies("as before", x, 2, 0, 1, 5, 4, 3);
        Check.due("passes", x.count(1), 1);
        Check.due("deeds", x.count(2), 5);
    }

    static void promise17PunchFull() {
        fortieth("punch", 3, x -> x.punch(0, 2, 8));
    }

    static void promise17PunchFullLast() {
        Edge.refused("STATE ahead of FULL", Edge::full, STATE, x -> x.punch(0, 0, 9));
        Edge.badAround("BAD ahead of FULL", Edge::full, 0, 9, (x, v) -> x.punch(0, 0, v));
        Edge.badAround("BAD ahead of FULL", Edge::full, 0, 2, (x, column) -> x.punch(0, column, 1));
    }

    // ---- 18 undo

    static void promise18UndoFromTheFirstToTheLast() {
        int[] deeds = {0, 1, 2, 3, 4};
        for (int n : deeds) {
            CardPasses x = Edge.busy();
            Check.due("undo " + n, x.undo(n), 4 - n);
            Check.due("deeds", x.count(2), n);
            Check.due("passes", x.count(1), n == 0 ? 0 : 1);
        }
        CardPasses x = Edge.busy();
        x.undo(3);
        Check.lies("without the lift", x, 4, 3, 2, 0, 1, 5);
        Check.told("still punched", x, x.card(2, 1), 1);
        x.undo(2);
        Check.told("no longer punched", x, x.card(2, 1), 8);
        x.undo(1);
        Check.lies("without the turn", x, 5, 1, 0, 2, 3, 4);
        x.undo(0);
        Check.lies("without the pass", x, 0, 1, 2, 3, 4, 5);
    }

    static void promise18UndoFromJustBehindTheLast() {
        Edge.silent("four", Edge::busy, 0, x -> x.undo(4));
        Edge.silent("forty", Edge::full, 0, x -> x.undo(40));
        Edge.silent("none", Edge::fresh, 0, x -> x.undo(0));
        Edge.silent("without cards", Edge::noCards, 0, x -> x.undo(0));
        Edge.silent("new", CardPasses::new, 0, x -> x.undo(0));
    }

    static void promise18UndoBad() {
        Edge.badAround("four", Edge::busy, 0, 4, (x, n) -> x.undo(n));
        Edge.badAround("forty", Edge::full, 0, 40, (x, n) -> x.undo(n));
        Edge.badAround("none", Edge::fresh, 0, 0, (x, n) -> x.undo(n));
        Edge.badAround("without cards", Edge::noCards, 0, 0, (x, n) -> x.undo(n));
        Edge.badAround("new", CardPasses::new, 0, 0, (x, n) -> x.undo(n));
    }

    static void promise18UndoAllForty() {
        CardPasses x = Edge.full();
        long kept = x.count(9);
        Check.due("all", x.undo(0), 40);
        Check.lies("as at first", x, 0, 1, 2, 3, 4, 5);
        Check.told("as read", x, x.card(0, 1), 5);
        Check.due("passes", x.count(1), 0);
        Check.due("kept ones stay", x.count(9), kept);
        Check.due("none left", x.undo(1), BAD);
    }

    static void promise18UndoneDeedsAreGone() {
        CardPasses x = Edge.busy();
        x.undo(1);
        x.lift(1);
        Check.lies("another second deed", x, 1, 0, 2, 3, 4, 5);
        Check.due("deeds", x.count(2), 2);
        Check.due("undone ones do not come again", x.undo(3), BAD);
    }

    // ---- 19 keep

    static void promise19KeepPlaces() {
        CardPasses x = Edge.fresh();
        for (int k = 0; k <= 2; k++) {
            Check.due("keep " + k, x.keep(k), 0);
            Check.due("kept", x.count(9), k + 1);
        }
        Check.due("kept once more", x.keep(2), 0);
        Check.due("kept", x.count(9), 3);
        Edge.badAround("place", Edge::busy, 0, 2, (y, k) -> y.keep(k));
        Edge.badAround("place, full", Edge::full, 0, 2, (y, k) -> y.keep(k));
    }

    static void promise19KeepWithoutCards() {
        Edge.refused("no cards", Edge::noCards, STATE, x -> x.keep(0));
        Edge.refused("no cards", CardPasses::new, STATE, x -> x.keep(2));
        Edge.badAround("BAD ahead of STATE", Edge::noCards, 0, 2, (x, k) -> x.keep(k));
    }

    static void promise19KeepNoDeedsToForty() {
        CardPasses x = Edge.full();
        Check.due("forty", x.keep(0), 40);
        x.undo(0);
        Check.due("none", x.keep(1), 0);
        Check.due("on forty", x.on(0), 40);
        Check.told("on forty", x, x.card(0, 1), 9);
        Check.due("on none", x.on(1), 0);
        Check.lies("on none", x, 0, 1, 2, 3, 4, 5);
    }

    static void promise19KeepInsteadOfAnother() {
        CardPasses x = Edge.busy();
        Check.due("keep", x.keep(0), 4);
        x.undo(0);
        Check.due("on", x.on(0), 4);
        Check.lies("on", x, 2, 0, 1, 5, 4, 3);
        Check.due("the other one stays", x.on(2), 3);
        Check.lies("the other one", x, 4, 3, 2, 0, 1, 5);
    }

    static void promise19KeepLeavesTheDeck() {
        CardPasses x = Edge.busy();
        Check.due("keep", x.keep(1), 4);
        Check.due("asked", x.asked(), MAX);
        Check.lies("as before", x, 2, 0, 1, 5, 4, 3);
        Check.due("deeds", x.count(2), 4);
        x.undo(1);
        Check.lies("undone", x, 5, 1, 0, 2, 3, 4);
    }

    // ---- 20 on

    static void promise20OnPlaces() {
        CardPasses x = Edge.full();
        int[] deeds = {0, 20, 40};
        for (int k = 0; k <= 2; k++) {
            Check.due("on " + k, x.on(k), deeds[k]);
            Check.due("deeds", x.count(2), deeds[k]);
            Check.due("passes", x.count(1), deeds[k] / 4);
            Check.due("still kept", x.count(9), 3);
        }
        Edge.badAround("place", Edge::busy, 0, 2, (y, k) -> y.on(k));
        Edge.badAround("place without cards", Edge::noCards, 0, 2, (y, k) -> y.on(k));
    }

    static void promise20OnNothing() {
        Edge.found("missing", Edge::busy, NOTHING, x -> x.on(1));
        Edge.found("missing without cards", Edge::noCards, NOTHING, x -> x.on(0));
        Edge.found("new", CardPasses::new, NOTHING, x -> x.on(2));
    }

    static void promise20OnIsFullAgain() {
        CardPasses x = Edge.full();
        x.undo(0);
        Check.due("room", x.turn(), 5);
        x.on(2);
        Check.due("full", x.turn(), FULL);
        x.on(1);
        Check.due("room for twenty", x.lots(20, 3) >= 0 ? 1 : 0, 1);
        Check.due("full", x.turn(), FULL);
    }

    static void promise20OnWithFewerDeedsForgetsTheRest() {
        CardPasses x = Edge.busy();
        Check.due("on", x.on(0), 1);
        Check.lies("on", x, 5, 1, 0, 2, 3, 4);
        Check.told("not yet punched", x, x.card(2, 1), 8);
        Check.due("no second deed", x.undo(2), BAD);
        Check.due("undone", x.undo(0), 1);
        Check.lies("undone", x, 0, 1, 2, 3, 4, 5);
    }

    static void promise20OnWithItsOwnDeeds() {
        CardPasses x = Edge.fresh();
        x.turn();
        x.lift(2);
        x.keep(1);
        x.undo(0);
        x.pass(1);
        x.punch(0, 0, 9);
        x.pass(2);
        Check.due("on", x.on(1), 2);
        Check.lies("on", x, 3, 2, 1, 0, 5, 4);
        Check.due("passes", x.count(1), 0);
        Check.told("not punched", x, x.card(0, 1), 5);
        Check.due("undone", x.undo(1), 1);
        Check.lies("turned", x, 5, 4, 3, 2, 1, 0);
    }

    static void promise20OnAsOftenAsWanted() {
        CardPasses x = Edge.busy();
        for (int k = 0; k < 5; k++) {
            Check.due("on", x.on(2), 3);
            Check.lies("on", x, 4, 3, 2, 0, 1, 5);
            x.pass(k % 3);
            x.punch(1, 1, k);
        }
    }

    static void promise20OnStaysBehindARefusedDeck() {
        CardPasses x = Edge.busy();
        Check.due("a fault", x.deck(1), STATE);
        Check.due("on", x.on(2), 3);
        x.deck(0);
        Check.finding("gone", x, x.on(2), NOTHING);
        Check.due("kept anew", x.keep(2), 0);
        Check.due("on", x.on(2), 0);
    }
}
