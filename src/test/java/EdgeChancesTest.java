/** Boundary cases of promises 32 to 34: chances, lots. */
final class EdgeChancesTest {
    private static final int BAD = Edge.BAD, FULL = Edge.FULL, STATE = Edge.STATE, MAX = Edge.MAX;

    private EdgeChancesTest() {
    }

    public static void main(String[] args) throws Exception {
        Edge.runAll(EdgeChancesTest.class);
    }

    private static void odds(String signs, int i, int p, long upper, long lower) {
        CardPasses x = Check.deckOf(signs);
        Check.parts("odds of " + signs + " by " + p, x, x.odds(i, 0, p), upper, lower);
    }

    private static void mid(String signs, int i, int p, long upper, long lower) {
        CardPasses x = Check.deckOf(signs);
        Check.parts("mid of " + signs + " by " + p, x, x.mid(i, 0, p), upper, lower);
    }

    // ---- 32 odds

    static void promise32OddsByNoneToTwelve() {
        odds("c000c100", 0, 0, 1, 1);
        odds("c000c100", 1, 0, 0, 1);
        odds("c000c100", 0, 1, 133, 144);
        odds("c000c100", 1, 1, 11, 144);
        odds("c000c100", 1, 11, 11, 144);
        odds("c000c100", 0, 12, 1, 1);
        odds("c100c000", 0, 12, 1, 1);
        odds("c100c000", 0, 0, 0, 1);
        Edge.badAround("p", Edge::busy, 0, 12, (x, p) -> x.odds(0, 0, p));
    }

    static void promise32OddsOfSix() {
        String six = "c000c100c200c300c400c500";
        // The last one is on top if all the others are misread, and it is not.
        odds(six, 5, 1, 11, 2985984);
        odds(six, 5, 6, 1, 64);
        odds(six, 0, 1, 11 * 248832 + 1, 2985984);
        odds(six, 0, 12, 1, 1);
        odds(six, 5, 12, 0, 1);
    }

    static void promise32OddsMisreadMasterLeads() {
        odds("c000m100", 1, 12, 1, 1);
        odds("c000m100", 1, 0, 0, 1);
        odds("c000m100", 1, 6, 1, 2);
    }

    static void promise32OddsTornLiesInTheSamePocket() {
        odds("t000c100", 0, 0, 0, 1);
        odds("t000c100", 0, 6, 1, 2);
        odds("c100t000", 1, 12, 0, 1);
    }

    static void promise32OddsNumbers() {
        Edge.badCards("odds", (x, i) -> x.odds(i, 0, 6));
        Edge.badAround("column", Edge::busy, 0, 2, (x, column) -> x.odds(0, column, 6));
        CardPasses x = Check.deckOf("c002c001");
        Check.parts("column 2", x, x.odds(1, 2, 0), 1, 1);
        Check.parts("column 0", x, x.odds(1, 0, 0), 0, 1);
    }

    static void promise32OddsChangesNothingElse() {
        Edge.aside("odds", Edge::busy, 1, x -> x.odds(0, 0, 6));
        CardPasses x = Edge.busy();
        x.odds(0, 0, 6);
        Check.due("asked", x.asked(), MAX);
    }

    // ---- 33 mid

    static void promise33MidByNoneToTwelve() {
        mid("c000c100", 0, 0, 0, 1);
        mid("c000c100", 1, 0, 1, 1);
        mid("c000c100", 0, 1, 11, 144);
        mid("c000c100", 1, 1, 133, 144);
        mid("c000c100", 0, 12, 0, 1);
        mid("c100c000", 0, 12, 0, 1);
        Edge.badAround("p", Edge::busy, 0, 12, (x, p) -> x.mid(0, 0, p));
    }

    static void promise33MidOfSix() {
        String six = "c000c100c200c300c400c500";
        mid(six, 0, 0, 0, 1);
        mid(six, 5, 0, 5, 1);
        mid(six, 5, 12, 5, 1);
        // Not misread it lies ahead of each misread one, misread behind all.
        mid(six, 5, 6, 15, 4);
        // Misread it lies behind those that are not, else on top.
        mid(six, 0, 6, 5, 4);
    }

    static void promise33MidNumbers() {
        Edge.badCards("mid", (x, i) -> x.mid(i, 0, 6));
        Edge.badAround("column", Edge::busy, 0, 2, (x, column) -> x.mid(0, column, 6));
        CardPasses x = Check.deckOf("c002c001");
        Check.parts("column 2", x, x.mid(1, 2, 0), 0, 1);
        Check.parts("column 0", x, x.mid(1, 0, 0), 1, 1);
    }

    static void promise33MidChangesNothingElse() {
        Edge.aside("mid", Edge::busy, 1, x -> x.mid(0, 0, 6));
        CardPasses x = Edge.busy();
        x.mid(5, 2, 6);
        Check.due("asked", x.asked(), MAX);
    }

    // ---- 34 lots

    static void promise34LotsFrom1To20() {
        CardPasses x = Edge.fresh();
        Check.due("one", x.lots(1, 1), 0);
        Check.due("deeds", x.count(2), 1);
        Check.due("twenty", x.lots(20, 7) >= 0 ? 1 : 0, 1);
        Check.due("deeds", x.count(2), 21);
        Edge.badAround("n", Edge::busy, 1, 20, (y, n) -> y.lots(n, 1));
    }

    static void promise34LotsSeeds() {
        for (int seed : new int[] {0, -1, Edge.MIN, MAX}) {
            Edge.refused("seed " + seed, Edge::busy, BAD, x -> x.lots(1, seed));
        }
        Check.due("the least", Edge.fresh().lots(1, 1), 0);
        Check.due("the greatest", Edge.fresh().lots(1, MAX - 1), 3);
    }

    static void promise34LotsWithoutCards() {
        Edge.refused("no cards", Edge::noCards, STATE, x -> x.lots(1, 1));
        Edge.refused("no cards", CardPasses::new, STATE, x -> x.lots(20, MAX - 1));
        Edge.badAround("BAD ahead of STATE", Edge::noCards, 1, 20, (x, n) -> x.lots(n, 1));
        Edge.refused("BAD ahead of STATE", Edge::noCards, BAD, x -> x.lots(1, 0));
        Edge.refused("BAD ahead of STATE", Edge::noCards, BAD, x -> x.lots(1, MAX));
    }

    private static CardPasses twenty() {
        CardPasses x = Edge.full();
        x.undo(20);
        return x;
    }

    private static CardPasses twentyOne() {
        CardPasses x = Edge.full();
        x.undo(21);
        return x;
    }

    static void promise34LotsFull() {
        CardPasses x = twenty();
        Check.due("just as many", x.lots(20, 5) >= 0 ? 1 : 0, 1);
        Check.due("deeds", x.count(2), 40);
        Edge.refused("one too many", EdgeChancesTest::twentyOne, FULL, y -> y.lots(20, 5));
        Check.due("one less", twentyOne().lots(19, 5) >= 0 ? 1 : 0, 1);
        Edge.refused("full", Edge::full, FULL, y -> y.lots(1, 5));
    }

    static void promise34LotsBadAheadOfFull() {
        Edge.badAround("n", Edge::full, 1, 20, (x, n) -> x.lots(n, 1));
        Edge.refused("seed", Edge::full, BAD, x -> x.lots(1, 0));
        Edge.refused("seed", Edge::full, BAD, x -> x.lots(1, MAX));
    }

    /** A seed whose first number's choice (it by 8, modulo 8) is as wanted, and further as the test asks. */
    private static int seedFor(int choice, java.util.function.LongPredicate fits) {
        for (int seed = 1; seed < 1000000; seed++) {
            long it = seed * 48271L % 2147483647L;
            if (it / 8 % 8 == choice && fits.test(it)) {
                return seed;
            }
        }
        Check.due("a seed", 0, 1);
        return 1;
    }

    static void promise34LotsPassFor0To4() {
        for (int choice = 0; choice <= 4; choice++) {
            for (int column = 0; column <= 2; column++) {
                int by = column;
                int seed = seedFor(choice, it -> it % 3 == by);
                CardPasses x = Edge.fresh();
                CardPasses y = Edge.fresh();
                Check.due("pass by " + column, x.lots(1, seed), y.pass(column));
                Check.due("pass by " + column, x.digest(), y.digest());
            }
        }
    }

    static void promise34LotsTurnFor5() {
        CardPasses x = Edge.fresh();
        Check.due("turned", x.lots(1, seedFor(5, it -> true)), 5);
        Check.lies("turned", x, 5, 4, 3, 2, 1, 0);
    }

    static void promise34LotsLiftFor6() {
        for (int n = 1; n <= 5; n++) {
            int rest = n - 1;
            CardPasses x = Edge.fresh();
            Check.due("lifted by " + n, x.lots(1, seedFor(6, it -> it / 64 % 5 == rest)), n);
        }
        CardPasses two = Edge.two();
        Check.due("of two always by 1", two.lots(1, seedFor(6, it -> it / 64 % 5 == 4)), 1);
    }

    static void promise34LotsPunchFor7() {
        for (int k = 0; k < 6; k++) {
            int card = k;
            int column = k % 3;
            int figure = k < 3 ? 0 : 9;
            int seed = seedFor(7, it -> it / 64 % 6 == card && it % 3 == column && it / 512 % 10 == figure);
            CardPasses x = Check.deckOf("c555c555c555c555c555c555");
            Check.due("punched", x.lots(1, seed), 0);
            Check.told("punched", x, x.card(card, 1 + column), figure);
            Check.due("one alone", x.count(4), 90 - 5 + figure);
            Check.due("no pass", x.count(1), 0);
        }
    }

    static void promise34LotsPunchAsItIsIsADeed() {
        int seed = seedFor(7, it -> it / 64 % 6 == 0 && it % 3 == 0 && it / 512 % 10 == 5);
        CardPasses x = Edge.fresh();
        Check.due("as it is", x.punch(0, 0, 5), STATE);
        Check.due("by lots", x.lots(1, seed), 0);
        Check.due("a deed", x.count(2), 1);
        Check.told("as it is", x, x.card(0, 1), 5);
        Check.due("undone", x.undo(0), 1);
    }

    static void promise34LotsEachFromTheOneAhead() {
        for (int seed : new int[] {1, 2, 99, 123456789, MAX - 1}) {
            CardPasses x = Edge.fresh();
            CardPasses y = Edge.fresh();
            long next = seed;
            for (int k = 0; k < 20; k++) {
                y.lots(1, (int) next);
                next = next * 48271 % 2147483647;
            }
            Check.due("twenty of " + seed, x.lots(20, seed), y.count(3));
            Check.due("twenty of " + seed, x.digest(), y.digest());
        }
    }

    static void promise34LotsAreTrulyDone() {
        CardPasses x = Edge.busy();
        x.lots(3, 4);
        Check.due("deeds", x.count(2), 7);
        Check.due("asked", x.asked(), MAX);
        Check.due("undone", x.undo(4), 3);
        Check.lies("as before", x, 2, 0, 1, 5, 4, 3);
    }
}
