/** Boundary cases of "Terms" and of promise 1. */
final class EdgeTermsTest {
    private EdgeTermsTest() {
    }

    public static void main(String[] args) throws Exception {
        Edge.runAll(EdgeTermsTest.class);
    }

    static void promise1NoRows() {
        for (int r = 0; r < 6; r++) {
            int row = r;
            Edge.found("at", CardPasses::new, Edge.NOTHING, x -> x.at(row, 0));
        }
        Check.due("rows", new CardPasses().count(7), 0);
    }

    static void promise1NoTexts() {
        for (int t = 0; t < 4; t++) {
            int text = t;
            Edge.found("put", CardPasses::new, Edge.NOTHING, x -> x.put(text, 0, 1));
        }
        Check.due("texts", new CardPasses().count(8), 0);
    }

    static void promise1NoCards() {
        CardPasses x = new CardPasses();
        for (int what : new int[] {0, 1, 2, 4, 5, 6, 9}) {
            Check.due("count " + what, x.count(what), 0);
        }
        Check.due("top", x.count(3), Edge.NONE);
        for (int k = 0; k < 3; k++) {
            Check.finding("kept " + k, x, x.on(k), Edge.NOTHING);
        }
    }

    static void promise1ObjectsShareNothing() {
        CardPasses one = Edge.full();
        CardPasses other = new CardPasses();
        long before = other.digest();
        one.lots(1, 1);
        one.undo(0);
        one.at(9, 9);
        one.at(0, 40);
        Check.due("digest", other.digest(), before);
        Check.due("digest of the latest", new CardPasses().digest(), before);
        Check.due("finding", other.finding(), 0);
        Check.due("asked", other.asked(), 0);
    }

    static void termsConstants() {
        Check.due("BAD", CardPasses.BAD, -1);
        Check.due("FULL", CardPasses.FULL, -2);
        Check.due("FINDING", CardPasses.FINDING, -3);
        Check.due("STATE", CardPasses.STATE, -4);
        Check.due("SPENT", CardPasses.SPENT, -6);
        Check.due("NONE", CardPasses.NONE, -9);
    }

    static void termsBadAheadOfAll() {
        Edge.refused("BAD and FULL", Edge::full, Edge.BAD, x -> x.pass(3));
        Edge.refused("BAD and STATE", Edge::noCards, Edge.BAD, x -> x.pass(3));
        Edge.refused("BAD and NOTHING", Edge::busy, Edge.BAD, x -> x.columns(6));
        Edge.refused("BAD and SIZE", Edge::busy, Edge.BAD, x -> x.row(6, -1));
        Edge.refused("BAD and UNLIKE", Edge::busy, Edge.BAD, x -> x.mark(0, 6));
    }

    static void termsStateAheadOfFindings() {
        Edge.refused("STATE and NOTHING", Edge::noCards, Edge.STATE, x -> x.columns(5));
        Edge.refused("STATE and SIZE", Edge::noCards, Edge.STATE, x -> x.columns(1));
        Edge.refused("STATE and NOUGHT", Edge::noCards, Edge.STATE, x -> x.sure(0, 54));
        // Only deck() says so otherwise: STATE behind NOTHING.
        Edge.found("NOTHING and no deck", Edge::noCards, Edge.NOTHING, x -> x.deck(0));
    }

    // ---- what cards read

    private static void reads(String card, int passes, int... due) {
        CardPasses x = Check.deckOf(card + "c000");
        for (int k = 0; k < passes; k++) {
            x.pass(k % 3);
        }
        for (int c = 0; c < 3; c++) {
            String call = card + " behind " + passes + " of column " + c;
            Check.told(call, x, x.card(0, 5 + c), due[c]);
            Check.due(call + " aside", x.pocket(0, c, passes), due[c]);
        }
    }

    static void termsCardReadsItsFigure() {
        reads("c059", 0, 0, 5, 9);
        reads("c059", 40, 0, 5, 9);
    }

    static void termsCutReadsFromBehind() {
        reads("x059", 0, 9, 5, 0);
        reads("x059", 40, 9, 5, 0);
    }

    static void termsWornReadsLessForEachFourPasses() {
        reads("w129", 0, 1, 2, 9);
        reads("w129", 3, 1, 2, 9);
        reads("w129", 4, 0, 1, 8);
        reads("w129", 7, 0, 1, 8);
        reads("w129", 8, 0, 0, 7);
    }

    static void termsWornReadsNoughtAtLeast() {
        reads("w019", 35, 0, 0, 1);
        reads("w019", 36, 0, 0, 0);
        reads("w019", 40, 0, 0, 0);
    }

    static void termsDoubleReadsTheGreaterOfTwo() {
        reads("d059", 0, 5, 9, 9);
        reads("d950", 0, 9, 5, 9);
        reads("d509", 0, 5, 9, 9);
        reads("d777", 40, 7, 7, 7);
        reads("d999", 0, 9, 9, 9);
    }

    static void termsDoubleColumnNoughtIsBehindTwo() {
        reads("d810", 0, 8, 1, 8);
        reads("d018", 0, 1, 8, 8);
    }

    static void termsTornReadsTenForNought() {
        reads("t019", 0, 10, 1, 9);
        reads("t000", 40, 10, 10, 10);
    }

    static void termsTornElseReadsAsWorn() {
        reads("t019", 3, 10, 1, 9);
        // Worn down to 0 is no figure 0.
        reads("t019", 4, 10, 0, 8);
        reads("t019", 40, 10, 0, 0);
    }

    static void termsMasterReadsNoughtForNine() {
        reads("m889", 0, 8, 0, 0);
        reads("m988", 0, 0, 8, 0);
        reads("m888", 40, 8, 8, 8);
        reads("m000", 0, 0, 0, 0);
        reads("m010", 0, 1, 1, 0);
    }

    // ---- passes

    private static void passed(String signs, int column, int... due) {
        CardPasses x = Check.deckOf(signs);
        Check.due("pass of " + signs, x.pass(column), due[0]);
        Check.lies("pass of " + signs, x, due);
    }

    static void termsPassAsTheyFell() {
        passed("c100c000c101c001c102c002", 0, 1, 3, 5, 0, 2, 4);
        passed("c555x555w555d555t555", 1, 0, 1, 2, 3, 4);
    }

    static void termsPassPocketsFromNoughtToTen() {
        passed("t000c900c800c100c000", 0, 4, 3, 2, 1, 0);
    }

    static void termsMasterAloneLeads() {
        passed("c111x111w111d111t111m111", 0, 5, 0, 1, 2, 3, 4);
        passed("d111c111", 0, 0, 1);
        passed("t111c111", 0, 0, 1);
    }

    static void termsMastersLeadAsTheyFell() {
        passed("c111m111c111m111m111", 2, 1, 3, 4, 0, 2);
    }

    static void termsMasterLeadsInItsPocketAlone() {
        passed("m222c111c333m333", 0, 1, 0, 3, 2);
        passed("c000m900", 0, 1, 0);
    }

    static void termsPassWearsBehindItself() {
        // The fourth pass falls by what there were ahead of it, the fifth by one less.
        CardPasses y = Check.deckOf("c100c200w200");
        for (int k = 0; k < 4; k++) {
            y.pass(0);
        }
        Check.lies("four passes", y, 0, 1, 2);
        y.pass(0);
        Check.lies("five passes", y, 0, 2, 1);
    }

    // ---- chances, means, numbers of sets

    static void termsLowestTerms() {
        CardPasses x = Check.deckOf("c000c000");
        Check.parts("a quarter", x, x.odds(1, 0, 6), 1, 4);
        Check.parts("nought by one", x, x.odds(1, 0, 0), 0, 1);
        Check.parts("one by one", x, x.odds(0, 0, 0), 1, 1);
        Check.parts("four by one", x, x.sets(0, 0), 4, 1);
        Check.parts("no set", x, x.sets(0, 1), 0, 1);
    }

    // ---- lots

    static void termsLotsFromTheGreatestSeed() {
        // 2147483646 times 48271 is 2147435376 modulo 2147483647: it by 8 modulo 8 is 6, it by 64 is 33553677.
        CardPasses x = Edge.fresh();
        Check.due("lifted by 3", x.lots(1, 2147483646), 3);
        Check.lies("lifted by 3", x, 3, 4, 5, 0, 1, 2);
        CardPasses y = Edge.two();
        Check.due("lifted by 1", y.lots(1, 2147483646), 1);
    }

    static void termsLotsFromTheLeastSeed() {
        // 48271 by 8 is 6033, modulo 8 it is 1: a pass by 48271 modulo 3, column 1.
        CardPasses x = Edge.fresh();
        Check.due("a pass", x.lots(1, 1), 0);
        Check.due("one pass", x.count(1), 1);
        Check.lies("by column 1", x, 0, 2, 4, 5, 1, 3);
    }
}
