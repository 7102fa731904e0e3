import java.lang.reflect.Method;
import java.util.Set;
import java.util.TreeSet;

/** Boundary cases of promises 35 to 41: what is told. */
final class EdgeToldTest {
    private static final int NONE = Edge.NONE, FINDING = CardPasses.FINDING, MIN = Edge.MIN, MAX = Edge.MAX;
    private static final int NOTHING = Edge.NOTHING, BEYOND = Edge.BEYOND, SIZE = Edge.SIZE;

    private EdgeToldTest() {
    }

    public static void main(String[] args) throws Exception {
        everyPromiseHasItsTests();
        Edge.runAll(EdgeToldTest.class);
    }

    private static void everyPromiseHasItsTests() {
        Class<?>[] all = {EdgeTermsTest.class, EdgeRowsTest.class, EdgeDecksTest.class, EdgeDeedsTest.class,
            EdgePassesTest.class, EdgePocketsTest.class, EdgeFiguresTest.class, EdgeChancesTest.class,
            EdgeToldTest.class};
        Set<String> named = new TreeSet<>();
        for (Class<?> tests : all) {
            for (Method m : tests.getDeclaredMethods()) {
                if (Edge.isTest(m)) {
                    named.add(m.getName().replaceAll("[A-Z].*", ""));
                }
            }
        }
        for (int promise = 1; promise <= 41; promise++) {
            Check.due("tests of promise " + promise, named.contains("promise" + promise) ? 1 : 0, 1);
        }
    }

    // ---- 35 asked

    /** Only row 0 (4, 6) and a deck; what is asked is 6. */
    private static CardPasses asking() {
        CardPasses x = Edge.fresh();
        Check.fill(x, 0, 4, 6);
        x.row(1, 0);
        x.at(0, 1);
        return x;
    }

    private static void asked(String call, int due, Edge.Call c) {
        CardPasses x = asking();
        c.answer(x);
        Check.due(call, x.asked(), due);
        x.card(6, 0);
        x.asked();
        Check.due(call + ", still", x.asked(), due);
    }

    static void promise35AskedNoughtBefore() {
        Check.due("new", new CardPasses().asked(), 0);
        CardPasses x = new CardPasses();
        x.row(0, 3);
        x.at(0, 3);
        x.at(9, 0);
        x.lots(1, 1);
        x.undo(0);
        Check.due("refused ones alone", x.asked(), 0);
    }

    static void promise35AskedByEachThatTells() {
        asked("lay", 4, x -> x.lay(0, 0, MIN));
        asked("at", 4, x -> x.at(0, 0));
        asked("mean", 5, x -> x.mean(0));
        asked("card", 9, x -> x.card(5, 1));
        asked("next", 3, x -> x.next(0, 1));
        asked("sets", 1, x -> x.sets(0, 5));
        asked("sets, none", NONE, x -> x.sets(0, 54));
        asked("sure", 46, x -> x.sure(0, 5));
        asked("duel", -5, x -> x.duel(5, 0, 0));
    }

    static void promise35AskedStaysWhenRefused() {
        asked("lay BAD", 6, x -> x.lay(6, 0, 1));
        asked("lay NOTHING", 6, x -> x.lay(5, 0, 1));
        asked("lay BEYOND", 6, x -> x.lay(0, 2, 1));
        asked("at BEYOND", 6, x -> x.at(0, -1));
        asked("mean NOUGHT", 6, x -> x.mean(1));
        asked("card BAD", 6, x -> x.card(0, 8));
        asked("next NOTHING", 6, x -> x.next(0, 5));
        asked("next UNLIKE", 6, x -> x.next(0, 0));
        asked("sets BAD", 6, x -> x.sets(0, 55));
        asked("sure NOUGHT", 6, x -> x.sure(0, 54));
        asked("duel BAD", 6, x -> x.duel(1, 1, 0));
    }

    static void promise35AskedStaysWhenNone() {
        CardPasses x = Edge.fresh();
        Check.fill(x, 0, 0, 6);
        x.at(0, 1);
        Check.due("no kind", x.next(0, 0), NONE);
        Check.due("asked", x.asked(), 6);
    }

    static void promise35AskedStaysByAllOthers() {
        Edge.Call[] others = {x -> x.row(2, 3), x -> x.tear(1), x -> x.copy(0, 0, 0, 1, 1), x -> x.text(1, 3),
            x -> x.put(0, 0, 65), x -> x.fault(0), x -> x.deck(0), x -> x.mark(1, 1), x -> x.pass(0), x -> x.turn(),
            x -> x.lift(1), x -> x.punch(0, 0, 1), x -> x.undo(0), x -> x.keep(0), x -> x.on(0),
            x -> x.pocket(0, 0, 0), x -> x.run(1, 2), x -> x.fewest(1, 0, 2), x -> x.order(0, 2),
            x -> x.columns(0), x -> x.kinds(0, 1), x -> x.figures(0, 0, 1), x -> x.odds(0, 0, 6),
            x -> x.mid(0, 0, 6), x -> x.lots(1, 1), x -> (int) x.upper(), x -> (int) x.lower(),
            x -> x.count(3), x -> x.finding(), x -> x.findings(1), x -> (int) x.digest()};
        for (int k = 0; k < others.length; k++) {
            asked("other call " + k, 6, others[k]);
        }
    }

    // ---- 36 upper, 37 lower

    private static CardPasses parted() {
        CardPasses x = Check.deckOf("c000c100");
        x.row(0, 1);
        x.odds(0, 0, 6);
        return x;
    }

    private static void parts(String call, long upper, long lower, Edge.Call c) {
        CardPasses x = parted();
        c.answer(x);
        Check.due(call + " upper", x.upper(), upper);
        Check.due(call + " lower", x.lower(), lower);
    }

    static void promise36UpperBefore() {
        Check.due("new", new CardPasses().upper(), 0);
        CardPasses x = Edge.fresh();
        x.odds(0, 0, 13);
        x.mid(6, 0, 0);
        x.sets(0, 55);
        Check.due("refused ones alone", x.upper(), 0);
    }

    static void promise37LowerBefore() {
        Check.due("new", new CardPasses().lower(), 1);
        CardPasses x = Edge.fresh();
        x.odds(0, 0, 13);
        x.mid(6, 0, 0);
        x.sets(0, 55);
        Check.due("refused ones alone", x.lower(), 1);
    }

    static void promise36UpperToldLast() {
        parts("odds", 3, 4, x -> x.odds(0, 0, 6));
        parts("odds of nought", 0, 1, x -> x.odds(1, 0, 0));
        parts("mid", 7, 9, x -> x.mid(1, 0, 4));
        parts("mid of nought", 0, 1, x -> x.mid(0, 0, 0));
        parts("sets", 2, 1, x -> x.sets(0, 1));
        parts("no sets", 0, 1, x -> x.sets(0, 2));
    }

    static void promise36UpperStaysWhenRefused() {
        parts("odds BAD", 3, 4, x -> x.odds(0, 0, -1));
        parts("mid BAD", 3, 4, x -> x.mid(2, 0, 0));
        parts("sets BAD", 3, 4, x -> x.sets(3, 0));
        parts("sure NOUGHT", 3, 4, x -> x.sure(0, 9));
    }

    static void promise37LowerStaysByAllOthers() {
        parts("mean", 3, 4, x -> x.mean(0));
        parts("sure", 3, 4, x -> x.sure(0, 1));
        parts("duel", 3, 4, x -> x.duel(0, 1, 1));
        parts("deck", 3, 4, x -> x.deck(0));
        parts("pass", 3, 4, x -> x.pass(0));
        parts("digest", 3, 4, x -> (int) x.digest());
    }

    static void promise37LowerGreatest() {
        // 12 by itself six times, with nothing in common.
        CardPasses x = Check.deckOf("c000c100c200c300c400c500");
        x.odds(5, 0, 1);
        Check.due("lower", x.lower(), 2985984);
        Check.due("upper", x.upper(), 11);
    }

    // ---- 38 count

    static void promise38CountWhats() {
        Edge.badAround("what", Edge::busy, 0, 9, (x, what) -> x.count(what));
        Edge.badAround("what without cards", Edge::noCards, 0, 9, (x, what) -> x.count(what));
    }

    private static void counts(String name, CardPasses x, int... due) {
        for (int what = 0; what < 10; what++) {
            Check.due(name + " count " + what, x.count(what), due[what]);
        }
    }

    static void promise38CountNothingThere() {
        counts("new", new CardPasses(), 0, 0, 0, NONE, 0, 0, 0, 0, 0, 0);
        counts("no cards", Edge.noCards(), 0, 0, 0, NONE, 0, 0, 0, 2, 1, 0);
    }

    static void promise38CountBusy() {
        counts("busy", Edge.busy(), 6, 1, 4, 2, 63, 2, 2, 3, 3, 2);
        Edge.silent("top", Edge::busy, 2, x -> x.count(3));
    }

    static void promise38CountEverythingFull() {
        CardPasses x = Edge.full();
        counts("full", x, 6, 10, 40, x.count(3), 74, 2, 2, 6, 4, 3);
        Check.told("the card on top", x, x.card(x.count(3), 4), 0);
    }

    static void promise38CountFigures() {
        Check.due("none", Check.deckOf("c000c000").count(4), 0);
        Check.due("all nines", Check.deckOf("c999x999w999d999t999m999").count(4), 162);
        Check.due("as punched, not as read", Check.deckOf("t000m999").count(4), 27);
    }

    static void promise38CountWornAndDoubles() {
        CardPasses worn = Check.deckOf("w111t222w333t444w555t666");
        Check.due("all worn", worn.count(5), 6);
        Check.due("no doubles", worn.count(6), 0);
        CardPasses doubles = Check.deckOf("d111m222d333m444d555m666");
        Check.due("no worn ones", doubles.count(5), 0);
        Check.due("all doubles", doubles.count(6), 6);
        CardPasses plain = Check.deckOf("c111x222");
        Check.due("no worn ones", plain.count(5), 0);
        Check.due("no doubles", plain.count(6), 0);
    }

    // ---- 39 finding

    static void promise39FindingNoneBefore() {
        CardPasses x = new CardPasses();
        Check.due("new", x.finding(), 0);
        x.row(6, -1);
        x.pass(0);
        x.undo(1);
        x.count(10);
        x.findings(0);
        Check.due("BAD and STATE are none", x.finding(), 0);
    }

    private static CardPasses allFound() {
        CardPasses x = Edge.fresh();
        x.row(0, 0);
        x.at(1, 0);
        x.at(0, 0);
        x.mark(0, 1);
        x.mean(0);
        x.row(0, -1);
        return x;
    }

    static void promise39FindingTheLatest() {
        CardPasses x = Edge.fresh();
        x.row(0, 0);
        Check.due("NOTHING", x.at(1, 0), FINDING);
        Check.due("NOTHING", x.finding(), 1);
        Check.due("BEYOND", x.at(0, 0), FINDING);
        Check.due("BEYOND", x.finding(), 2);
        Check.due("UNLIKE", x.mark(0, 1), FINDING);
        Check.due("UNLIKE", x.finding(), 3);
        Check.due("NOUGHT", x.mean(0), FINDING);
        Check.due("NOUGHT", x.finding(), 4);
        Check.due("SIZE", x.row(0, -1), FINDING);
        Check.due("SIZE", x.finding(), 5);
        Check.due("NOTHING again", x.at(1, 0), FINDING);
        Check.due("NOTHING again", x.finding(), 1);
    }

    static void promise39FindingStaysByAllElse() {
        CardPasses x = allFound();
        x.row(6, 0);
        x.pass(0);
        x.deck(0);
        x.finding();
        Check.due("stays", x.finding(), SIZE);
    }

    // ---- 40 findings

    static void promise40FindingsFrom1To5() {
        Edge.badAround("findings", Edge::busy, 1, 5, (x, f) -> x.findings(f));
        Edge.badAround("findings, new", CardPasses::new, 1, 5, (x, f) -> x.findings(f));
        CardPasses x = allFound();
        for (int f = 1; f <= 5; f++) {
            Check.due("findings " + f, x.findings(f), 1);
            Check.due("new " + f, new CardPasses().findings(f), 0);
        }
    }

    static void promise40FindingsHowOften() {
        CardPasses x = new CardPasses();
        x.row(0, 1);
        for (int k = 1; k <= 200; k++) {
            x.at(0, 1);
        }
        Check.due("200 times", x.findings(BEYOND), 200);
        Check.due("no other", x.findings(NOTHING), 0);
        x.findings(BEYOND);
        x.at(6, 1);
        x.at(0, 0);
        Check.due("still", x.findings(BEYOND), 200);
    }

    static void promise40FindingsStayBehindADeckAnew() {
        CardPasses x = allFound();
        x.deck(0);
        for (int f = 1; f <= 5; f++) {
            Check.due("findings " + f, x.findings(f), 1);
        }
    }

    // ---- 41 digest

    private static long on(long h, long... values) {
        for (long v : values) {
            h = 31 * h + v;
        }
        return h;
    }

    static void promise41DigestOfNothing() {
        long h = on(17, 0, 0, 0, -9, 0, 0, 0, 0, 0, 0);
        h = on(h, -1, -1, -1, -1, -1, -1, -1, -1, -1, -1, -1, -1, -1);
        Check.due("new", new CardPasses().digest(), h);
    }

    static void promise41DigestOfEmptyOnes() {
        CardPasses x = new CardPasses();
        for (int r = 0; r < 6; r++) {
            x.row(r, 0);
        }
        for (int t = 0; t < 4; t++) {
            x.text(t, 0);
        }
        long h = on(17, 0, 0, 0, -9, 0, 0, 0, 6, 4, 0);
        h = on(h, -1, -1, -1, 0, 0, 0, 0, 0, 0, 0, 0, 0, 0);
        Check.due("empty", x.digest(), h);
    }

    static void promise41DigestOfTheGreatest() {
        CardPasses x = Check.deckOf("w999t001");
        for (int k = 0; k < 40; k++) {
            x.pass(0);
        }
        x.keep(2);
        x.text(0, 60);
        for (int i = 0; i < 60; i++) {
            x.put(0, i, i % 2 == 0 ? 128 : 127);
        }
        x.row(5, 40);
        for (int i = 0; i < 40; i++) {
            x.lay(5, i, i % 2 == 0 ? MIN : MAX);
        }
        long h = on(17, 2, 40, 40, 0, 28, 2, 0, 1, 1, 1);
        h = on(h, 2, 9, 9, 9, 0, 0, 0, 0);
        h = on(h, 4, 0, 0, 1, 1, 10, 10, 0);
        h = on(h, -1, -1, 40, -1, -1, -1, -1, -1, 40);
        for (int i = 0; i < 20; i++) {
            h = on(h, MIN, MAX);
        }
        h = on(h, 60);
        for (int i = 0; i < 30; i++) {
            h = on(h, -128, 127);
        }
        h = on(h, -1, -1, -1);
        Check.due("greatest", x.digest(), h);
    }

    static void promise41DigestOfBusy() {
        CardPasses x = Edge.busy();
        long h = on(17, 6, 1, 4, 2, 63, 2, 2, 3, 3, 2);
        h = on(h, 0, 5, 0, 3, 1, 5, 0, 3);
        h = on(h, 1, 1, 7, 4, 2, 4, 7, 1);
        h = on(h, 2, 1, 3, 0, 0, 1, 3, 0);
        h = on(h, 3, 2, 9, 1, 5, 9, 9, 2);
        h = on(h, 4, 0, 4, 6, 4, 10, 4, 6);
        h = on(h, 5, 9, 6, 2, 3, 0, 6, 0);
        h = on(h, 1, -1, 3);
        h = on(h, 2, 0, 5, 0, 40);
        h = on(h, new long[39]);
        h = on(h, MAX, -1, -1, -1);
        h = on(h, 24);
        for (char sign : Edge.ALL.toCharArray()) {
            h = on(h, sign);
        }
        h = on(h, 3, 'c', '1', '2', 0, -1);
        Check.due("busy", x.digest(), h);
    }

    static void promise41DigestLeavesAll() {
        Edge.silent("digest", Edge::busy, (int) Edge.busy().digest(), x -> (int) x.digest());
        Edge.silent("digest, full", Edge::full, (int) Edge.full().digest(), x -> (int) x.digest());
        CardPasses x = Edge.busy();
        long first = x.digest();
        Check.due("twice", x.digest(), first);
        x.at(9, 9);
        x.at(0, 9);
        x.card(0, 0);
        x.odds(0, 0, 3);
        Check.due("not of what was asked and found", x.digest(), first);
    }
}
