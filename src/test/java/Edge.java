import java.lang.reflect.Method;
import java.util.Arrays;
import java.util.Comparator;

/** What the tests of boundary cases share: objects to begin from, and that refused calls change nothing. */
final class Edge {
    static final int BAD = CardPasses.BAD, FULL = CardPasses.FULL, STATE = CardPasses.STATE, NONE = CardPasses.NONE;
    static final int NOTHING = 1, BEYOND = 2, UNLIKE = 3, NOUGHT = 4, SIZE = 5;
    static final int MIN = Integer.MIN_VALUE, MAX = Integer.MAX_VALUE;
    /** A card of each kind, in the order of the kinds. */
    static final String ALL = "c503x174w830d291t046m962";

    interface Made {
        CardPasses make();
    }

    interface Call {
        int answer(CardPasses x);
    }

    private Edge() {
    }

    static boolean isTest(Method m) {
        return m.getName().matches("(promise\\d+|terms)[A-Z]\\w*");
    }

    /** Runs each test of the class: one for each sentence of the document, named after its promise. */
    static void runAll(Class<?> tests) throws Exception {
        Method[] methods = tests.getDeclaredMethods();
        Arrays.sort(methods, Comparator.comparing(Method::getName));
        for (Method m : methods) {
            if (isTest(m)) {
                Check.begin(m.getName());
                m.invoke(null);
            }
        }
        Check.end(tests.getSimpleName());
    }

    // ---- objects to begin from

    /** Rows and texts, but no cards. */
    static CardPasses noCards() {
        CardPasses x = new CardPasses();
        Check.fill(x, 0, 0, 1);
        x.row(1, 0);
        Check.write(x, 1, "c12");
        x.row(5, -1);
        x.at(0, 1);
        return x;
    }

    static CardPasses fresh() {
        return Check.deckOf(ALL);
    }

    static CardPasses two() {
        return Check.deckOf("c123c456");
    }

    /**
     * Rows 0 (a pair), 1 (empty) and 2 (of 40), texts 0 (a deck), 1 (a fault) and 2 (empty); four deeds, behind
     * which the cards lie 2 0 1 5 4 3 and card 2 is w130; decks kept in 0 and 2. All else is missing.
     */
    static CardPasses busy() {
        CardPasses x = fresh();
        x.pass(0);
        x.keep(0);
        x.turn();
        x.punch(2, 0, 1);
        x.keep(2);
        x.lift(2);
        Check.fill(x, 0, 0, 5);
        x.row(1, 0);
        x.row(2, 40);
        x.lay(2, 39, MAX);
        Check.write(x, 1, "c12");
        x.text(2, 0);
        x.mid(0, 0, 5);
        x.at(3, 0);
        x.at(1, 0);
        x.at(2, 39);
        return x;
    }

    /** Forty deeds (ten passes, the last deed a punching), three decks kept, all rows and texts at their greatest. */
    static CardPasses full() {
        CardPasses x = fresh();
        x.keep(0);
        for (int k = 0; k < 40; k++) {
            if (k == 20) {
                x.keep(1);
            }
            deed(x, k);
        }
        x.keep(2);
        for (int r = 0; r < 6; r++) {
            x.row(r, 40);
        }
        for (int t = 0; t < 4; t++) {
            x.text(t, 60);
        }
        x.odds(1, 1, 7);
        x.card(3, 1);
        return x;
    }

    private static void deed(CardPasses x, int k) {
        if (k % 4 == 0) {
            x.pass(k % 3);
        } else if (k % 4 == 1) {
            x.turn();
        } else if (k % 4 == 2) {
            x.lift(1);
        } else {
            x.punch(0, 0, k % 10);
        }
    }

    // ---- what a call changes

    /** Refused by BAD, FULL or STATE: that is answered, and nothing at all is changed. */
    static void refused(String call, Made made, int answer, Call c) {
        CardPasses x = made.make();
        CardPasses twin = made.make();
        Check.due(call, c.answer(x), answer);
        sameTold(call, x, twin);
        sameFindings(call, x, twin, 0);
        sameState(call, x, twin);
    }

    /** Refused by a finding: nothing is changed but finding() and findings(). */
    static void found(String call, Made made, int finding, Call c) {
        CardPasses x = made.make();
        CardPasses twin = made.make();
        Check.due(call, c.answer(x), CardPasses.FINDING);
        sameTold(call, x, twin);
        sameFindings(call, x, twin, finding);
        sameState(call, x, twin);
    }

    /** Answered, but nothing is changed, what asked(), upper(), lower() tell neither. */
    static void silent(String call, Made made, int answer, Call c) {
        refused(call, made, answer, c);
    }

    /** Answered, and nothing is changed but what asked(), upper(), lower() tell. */
    static void aside(String call, Made made, int answer, Call c) {
        CardPasses x = made.make();
        CardPasses twin = made.make();
        Check.due(call, c.answer(x), answer);
        sameFindings(call, x, twin, 0);
        sameState(call, x, twin);
    }

    private static void sameTold(String call, CardPasses x, CardPasses twin) {
        Check.due(call + " leaves asked", x.asked(), twin.asked());
        Check.due(call + " leaves upper", x.upper(), twin.upper());
        Check.due(call + " leaves lower", x.lower(), twin.lower());
    }

    private static void sameFindings(String call, CardPasses x, CardPasses twin, int finding) {
        Check.due(call + " finding", x.finding(), finding == 0 ? twin.finding() : finding);
        for (int f = NOTHING; f <= SIZE; f++) {
            Check.due(call + " findings " + f, x.findings(f), twin.findings(f) + (f == finding ? 1 : 0));
        }
    }

    /** Undoes both deed by deed and goes on from what was kept, so that what digest() hides is looked at, too. */
    private static void sameState(String call, CardPasses x, CardPasses twin) {
        Check.due(call + " leaves all", x.digest(), twin.digest());
        for (int d = twin.count(2) - 1; d >= 0; d--) {
            Check.due(call + " leaves deeds", x.undo(d), twin.undo(d));
            Check.due(call + " leaves deed " + d, x.digest(), twin.digest());
        }
        for (int k = 0; k < 3; k++) {
            Check.due(call + " leaves kept " + k, x.on(k), twin.on(k));
            Check.due(call + " leaves the kept deck " + k, x.digest(), twin.digest());
            int half = twin.count(2) / 2;
            Check.due(call + " leaves kept deeds " + k, x.undo(half), twin.undo(half));
            Check.due(call + " leaves half the kept deeds " + k, x.digest(), twin.digest());
        }
    }

    /** What is BAD for a number that goes from low to high: one less, one more, and far out on either side. */
    static void badAround(String call, Made made, int low, int high, Numbered c) {
        for (int v : new int[] {low - 1, high + 1, MIN, MAX}) {
            refused(call + " " + v, made, BAD, x -> c.answer(x, v));
        }
    }

    interface Numbered {
        int answer(CardPasses x, int v);
    }

    /** All that a call can refuse to take as a card, for each of several decks. */
    static void badCards(String call, Numbered c) {
        badAround(call + " card of six", Edge::busy, 0, 5, c);
        badAround(call + " card of two", Edge::two, 0, 1, c);
        badAround(call + " card of a full object", Edge::full, 0, 5, c);
        refused(call + " card 0 without cards", Edge::noCards, BAD, x -> c.answer(x, 0));
        refused(call + " card 0 of a new object", CardPasses::new, BAD, x -> c.answer(x, 0));
    }
}
