/** Boundary cases of promises 29 to 31: whose figures, and by turns. */
final class EdgeFiguresTest {
    private static final int BAD = Edge.BAD, STATE = Edge.STATE, NONE = Edge.NONE, NOUGHT = Edge.NOUGHT;
    private static final String NINES = "c999x999w999d999t999m999";
    private static final String NOUGHTS = "c000x000w000d000t000m000";

    private EdgeFiguresTest() {
    }

    public static void main(String[] args) throws Exception {
        Edge.runAll(EdgeFiguresTest.class);
    }

    private static void sets(String signs, int column, int v, long many, int first) {
        CardPasses x = Check.deckOf(signs);
        String call = "sets of " + signs + " " + column + " " + v;
        Check.parts(call, x, x.sets(column, v), many, 1);
        Check.due(call + ", the first", x.asked(), first);
    }

    // ---- 29 sets

    static void promise29SetsFrom0To54() {
        sets(NINES, 0, 0, 1, 0);
        sets(NINES, 2, 54, 1, 63);
        sets(NINES, 1, 53, 0, NONE);
        sets(NINES, 1, 45, 6, 31);
        sets(NOUGHTS, 1, 0, 64, 0);
        sets(NOUGHTS, 1, 1, 0, NONE);
        Edge.badAround("sum", Edge::busy, 0, 54, (x, v) -> x.sets(0, v));
        Edge.badAround("sum, full", Edge::full, 0, 54, (x, v) -> x.sets(0, v));
    }

    static void promise29SetsColumns() {
        sets("c100c020", 0, 1, 2, 1);
        sets("c100c020", 1, 2, 2, 2);
        sets("c100c020", 2, 0, 4, 0);
        Edge.badAround("column", Edge::busy, 0, 2, (x, column) -> x.sets(column, 0));
    }

    static void promise29SetsTheFirst() {
        sets("c100c100c200", 0, 2, 2, 3);
        sets("c200c100c100", 0, 2, 2, 1);
        sets("c100c200c100", 0, 2, 2, 2);
    }

    static void promise29SetsOfFiguresNotOfWhatTheyRead() {
        sets("x129m900", 0, 1, 1, 1);
        sets("x129m900", 0, 9, 1, 2);
        sets("x129m900", 0, 10, 1, 3);
        CardPasses worn = Check.deckOf("w500c000");
        for (int k = 0; k < 8; k++) {
            worn.pass(0);
        }
        Check.parts("worn", worn, worn.sets(0, 5), 2, 1);
        worn.punch(0, 0, 7);
        Check.parts("punched", worn, worn.sets(0, 7), 2, 1);
        Check.parts("no longer", worn, worn.sets(0, 5), 0, 1);
    }

    static void promise29SetsNoneIsTold() {
        CardPasses x = Edge.busy();
        Check.due("no set is no refusal", x.sets(0, 54), 1);
        Check.due("NONE by asked", x.asked(), NONE);
        Check.due("upper", x.upper(), 0);
        Check.due("lower", x.lower(), 1);
        Edge.aside("no set", Edge::busy, 1, y -> y.sets(0, 54));
        Edge.aside("a set", Edge::busy, 1, y -> y.sets(0, 0));
    }

    static void promise29SetsWithoutCards() {
        Edge.refused("no cards", Edge::noCards, STATE, x -> x.sets(0, 0));
        Edge.refused("no cards", CardPasses::new, STATE, x -> x.sets(2, 54));
        Edge.badAround("BAD ahead of STATE", Edge::noCards, 0, 54, (x, v) -> x.sets(0, v));
        Edge.badAround("BAD ahead of STATE", Edge::noCards, 0, 2, (x, column) -> x.sets(column, 0));
    }

    // ---- 30 sure

    private static void sure(String signs, int v, int each, int none) {
        CardPasses x = Check.deckOf(signs);
        String call = "sure of " + signs + " " + v;
        Check.due(call, x.sure(0, v), each);
        Check.due(call + ", in none", x.asked(), none);
    }

    static void promise30SureFrom0To54() {
        sure(NINES, 54, 63, 0);
        sure(NINES, 0, 0, 63);
        sure(NINES, 45, 0, 0);
        sure(NOUGHTS, 0, 0, 0);
        sure("c100c200", 3, 3, 0);
        sure("c100c200", 2, 2, 1);
        sure("c100c200", 0, 0, 3);
        Edge.badAround("sum", Edge::busy, 0, 54, (x, v) -> x.sure(0, v));
        Edge.badAround("column", Edge::busy, 0, 2, (x, column) -> x.sure(column, 0));
    }

    static void promise30SureNoSet() {
        Edge.found("one too many", () -> Check.deckOf("c100c200"), NOUGHT, x -> x.sure(0, 4));
        Edge.found("54", Edge::busy, NOUGHT, x -> x.sure(0, 54));
        Edge.found("one less than all nines", () -> Check.deckOf(NINES), NOUGHT, x -> x.sure(2, 53));
        Edge.found("noughts", () -> Check.deckOf(NOUGHTS), NOUGHT, x -> x.sure(2, 1));
    }

    static void promise30SureInThisOrder() {
        Edge.badAround("BAD ahead of STATE", Edge::noCards, 0, 54, (x, v) -> x.sure(0, v));
        Edge.badAround("BAD ahead of STATE", Edge::noCards, 0, 2, (x, column) -> x.sure(column, 54));
        Edge.refused("STATE ahead of NOUGHT", Edge::noCards, STATE, x -> x.sure(0, 54));
        Edge.refused("STATE", CardPasses::new, STATE, x -> x.sure(0, 0));
        Edge.refused("BAD ahead of NOUGHT", Edge::busy, BAD, x -> x.sure(3, 54));
    }

    static void promise30SureLeavesUpperAndLower() {
        CardPasses x = Check.deckOf("c100c200");
        x.odds(0, 0, 6);
        long upper = x.upper();
        long lower = x.lower();
        x.sure(0, 3);
        Check.due("upper", x.upper(), upper);
        Check.due("lower", x.lower(), lower);
        Edge.aside("sure", Edge::busy, 0, y -> y.sure(1, 0));
    }

    // ---- 31 duel

    static void promise31DuelTimes() {
        Edge.badAround("times", Edge::busy, 0, 3, (x, n) -> x.duel(0, 1, n));
        CardPasses x = Edge.busy();
        Check.told("none", x, x.duel(2, 3, 0), 5);
        Check.told("none, the other way", x, x.duel(3, 2, 0), -5);
        Check.told("none, beside", x, x.duel(0, 1, 0), 1);
        Edge.aside("three", Edge::busy, 1, y -> y.duel(0, 1, 3));
    }

    static void promise31DuelAnotherCard() {
        for (int i = 0; i < 6; i++) {
            int card = i;
            Edge.refused("itself", Edge::busy, BAD, x -> x.duel(card, card, 1));
        }
    }

    static void promise31DuelCards() {
        Edge.badCards("the first one's", (x, i) -> x.duel(i, 1, 1));
        Edge.badCards("the other one's", (x, j) -> x.duel(1, j, 1));
        CardPasses x = Edge.two();
        Check.told("both of two", x, x.duel(1, 0, 0), -1);
    }

    private static void duel(String signs, int n, int due) {
        CardPasses x = Check.deckOf(signs);
        Check.told("duel of " + signs + " " + n, x, x.duel(0, 1, n), due);
    }

    static void promise31DuelOneTurnEach() {
        // The first one wants card 0 on top, the other one has the last word.
        duel("c100c000", 1, -1);
        duel("c000c100", 1, 1);
        duel("c000c000", 3, 1);
        duel("c010c100", 1, -1);
        duel("c001c100", 3, -1);
    }

    static void promise31DuelTheFirstOneBegins() {
        // By the ninth pass w2 comes ahead of c1: whoever makes the eighth lets the other make the ninth.
        CardPasses x = Check.deckOf("c111w222");
        for (int k = 0; k < 7; k++) {
            x.pass(0);
        }
        Check.told("he need not make the eighth", x, x.duel(0, 1, 1), 1);
        Check.told("he makes the eighth, but the other one not the ninth", x, x.duel(1, 0, 1), -1);
        Check.told("by two turns each the ninth can be made", x, x.duel(0, 1, 2), -1);
    }

    static void promise31DuelGoesOnFromThePassesThereWere() {
        for (int passes = 3; passes <= 8; passes++) {
            CardPasses x = Check.deckOf("c111w222");
            for (int k = 0; k < passes; k++) {
                x.pass(0);
            }
            // The other one alone wants passes, three of his: from the sixth on he makes the ninth.
            Check.told("behind " + passes, x, x.duel(0, 1, 3), passes < 6 ? 1 : -1);
        }
    }

    static void promise31DuelLeavesUpperAndLower() {
        CardPasses x = Edge.busy();
        long upper = x.upper();
        x.duel(0, 1, 2);
        Check.due("upper", x.upper(), upper);
    }
}
