/** For each promise ordinary inputs, the edges that the document names, and wrong inputs. */
public final class PromisesTest {
    private static final int BAD = CardPasses.BAD, FULL = CardPasses.FULL, STATE = CardPasses.STATE;
    private static final int NONE = CardPasses.NONE, FINDING = CardPasses.FINDING;
    private static final int NOTHING = 1, BEYOND = 2, UNLIKE = 3, NOUGHT = 4, SIZE = 5;
    private static final int MIN = Integer.MIN_VALUE, MAX = Integer.MAX_VALUE;
    /** A card of each kind, in the order of the kinds. */
    private static final String ALL = "c503x174w830d291t046m962";

    private PromisesTest() {
    }

    public static void main(String[] args) {
        promise1NewObject();
        promise2Row();
        promise3Lay();
        promise4At();
        promise5Tear();
        promise6Copy();
        promise7Mean();
        promise8Text();
        promise9Put();
        promise10Fault();
        promise11Deck();
        promise12Card();
        promise13Mark();
        promise14Pass();
        promise15Turn();
        promise16Lift();
        promise17Punch();
        promise18Undo();
        promise19Keep();
        promise20On();
        promise21Pocket();
        promise22Run();
        promise23Fewest();
        promise24Order();
        promise25Columns();
        promise26Kinds();
        promise27Figures();
        promise28Next();
        promise29Sets();
        promise30Sure();
        promise31Duel();
        promise32Odds();
        promise33Mid();
        promise34Lots();
        promise35Asked();
        promise36And37UpperLower();
        promise38Count();
        promise39And40Findings();
        promise41Digest();
        Check.end("PromisesTest");
    }

    private static void promise1NewObject() {
        CardPasses x = new CardPasses();
        for (int what = 0; what < 10; what++) {
            Check.due("new count " + what, x.count(what), what == 3 ? NONE : 0);
        }
        for (int r = 0; r < 6; r++) {
            Check.finding("new row " + r, x, x.at(r, 0), NOTHING);
        }
        for (int t = 0; t < 4; t++) {
            Check.finding("new text " + t, x, x.fault(t), NOTHING);
        }
        Check.due("new card", x.card(0, 0), BAD);
    }

    private static void promise2Row() {
        CardPasses x = new CardPasses();
        Check.due("row 0", x.row(0, 0), 0);
        Check.due("row 40", x.row(5, 40), 40);
        Check.due("row number 6", x.row(6, 1), BAD);
        Check.due("row number -1", x.row(-1, 1), BAD);
        Check.due("row 41", x.row(0, 41), BAD);
        Check.due("row MAX", x.row(0, MAX), BAD);
        Check.due("row BAD ahead of SIZE", x.row(6, -1), BAD);
        Check.due("no finding yet", x.finding(), 0);
        Check.finding("row -1", x, x.row(5, -1), SIZE);
        Check.finding("row MIN", x, x.row(5, MIN), SIZE);
        Check.told("a refused row stays", x, x.at(5, 39), 0);
        Check.fill(x, 2, 7, 8, 9);
        Check.due("row anew", x.row(2, 3), 3);
        Check.row("row anew", x, 2, 0, 0, 0);
    }

    private static void promise3Lay() {
        CardPasses x = new CardPasses();
        Check.finding("lay nothing", x, x.lay(0, 0, 1), NOTHING);
        x.row(0, 2);
        Check.told("lay", x, x.lay(0, 1, MIN), 0);
        Check.told("lay again", x, x.lay(0, 1, 5), MIN);
        Check.finding("lay behind", x, x.lay(0, 2, 1), BEYOND);
        Check.finding("lay ahead", x, x.lay(0, -1, 1), BEYOND);
        Check.finding("lay MAX", x, x.lay(0, MAX, 1), BEYOND);
        Check.due("lay row 6", x.lay(6, 0, 1), BAD);
        Check.due("lay row -1", x.lay(-1, 9, 1), BAD);
        Check.row("laid", x, 0, 0, 5);
    }

    private static void promise4At() {
        CardPasses x = new CardPasses();
        Check.finding("at nothing", x, x.at(3, 9), NOTHING);
        Check.fill(x, 3, 4, -6);
        Check.told("at", x, x.at(3, 1), -6);
        Check.finding("at behind", x, x.at(3, 2), BEYOND);
        Check.finding("at MIN", x, x.at(3, MIN), BEYOND);
        Check.due("at row 6", x.at(6, 0), BAD);
        Check.due("at row MIN", x.at(MIN, 0), BAD);
        Check.due("refused leaves asked", x.asked(), -6);
    }

    private static void promise5Tear() {
        CardPasses x = new CardPasses();
        Check.finding("tear nothing", x, x.tear(0), NOTHING);
        x.row(0, 3);
        Check.due("tear", x.tear(0), 1);
        Check.finding("torn", x, x.at(0, 0), NOTHING);
        Check.finding("tear twice", x, x.tear(0), NOTHING);
        Check.due("tear 6", x.tear(6), BAD);
        Check.due("tear -1", x.tear(-1), BAD);
    }

    private static void promise6Copy() {
        CardPasses x = new CardPasses();
        Check.fill(x, 0, 1, 2, 3, 4, 5);
        Check.fill(x, 1, 9, 9, 9);
        Check.due("copy", x.copy(0, 1, 1, 0, 2), 1);
        Check.row("copied", x, 1, 2, 3, 9);
        Check.due("copy upwards in itself", x.copy(0, 0, 0, 1, 4), 1);
        Check.row("copied up", x, 0, 1, 1, 2, 3, 4);
        Check.due("copy downwards in itself", x.copy(0, 2, 0, 0, 3), 1);
        Check.row("copied down", x, 0, 2, 3, 4, 3, 4);
        Check.due("copy none at the end", x.copy(0, 5, 1, 3, 0), 1);
        Check.finding("copy none behind the end", x, x.copy(0, 6, 1, 3, 0), BEYOND);
        Check.finding("copy too many", x, x.copy(0, 4, 1, 0, 2), BEYOND);
        Check.finding("copy too many to", x, x.copy(0, 0, 1, 2, 2), BEYOND);
        Check.finding("copy from -1", x, x.copy(0, -1, 1, 0, 1), BEYOND);
        Check.finding("copy to -1", x, x.copy(0, 0, 1, -1, 1), BEYOND);
        Check.finding("copy MAX", x, x.copy(0, 1, 1, 1, MAX), BEYOND);
        Check.finding("copy MAX place", x, x.copy(0, MAX, 1, MAX, 1), BEYOND);
        Check.finding("copy from nothing", x, x.copy(2, 0, 1, 0, 1), NOTHING);
        Check.finding("copy to nothing", x, x.copy(0, 0, 2, 0, 99), NOTHING);
        Check.finding("copy SIZE ahead of NOTHING", x, x.copy(2, 0, 3, 0, -1), SIZE);
        Check.due("copy from 6", x.copy(6, 0, 1, 0, -1), BAD);
        Check.due("copy to -1", x.copy(0, 0, -1, 0, 1), BAD);
        Check.row("refused copies change nothing", x, 1, 2, 3, 9);
    }

    private static void promise7Mean() {
        CardPasses x = new CardPasses();
        Check.finding("mean of nothing", x, x.mean(0), NOTHING);
        Check.fill(x, 0, 2, 3, 3);
        Check.told("mean", x, x.mean(0), 2);
        Check.fill(x, 0, -2, -3, -3);
        Check.told("mean cut", x, x.mean(0), -2);
        Check.fill(x, 0, MAX, MAX, MAX);
        Check.told("mean of the greatest", x, x.mean(0), MAX);
        Check.fill(x, 0, MIN, MIN);
        Check.told("mean of the least", x, x.mean(0), MIN);
        Check.fill(x, 0, 8);
        Check.told("mean of one", x, x.mean(0), 8);
        x.row(0, 0);
        Check.finding("mean of none", x, x.mean(0), NOUGHT);
        Check.due("mean of row 6", x.mean(6), BAD);
        Check.due("mean tells no parts", x.upper(), 0);
    }

    private static void promise8Text() {
        CardPasses x = new CardPasses();
        Check.due("text 0", x.text(0, 0), 0);
        Check.due("text 60", x.text(3, 60), 60);
        Check.due("text 61", x.text(3, 61), BAD);
        Check.due("text number 4", x.text(4, 1), BAD);
        Check.due("text number -1", x.text(-1, -1), BAD);
        Check.finding("text -1", x, x.text(3, -1), SIZE);
        Check.due("blanks", x.put(3, 59, 65), 1032);
        Check.due("text anew", x.text(3, 60), 60);
        Check.due("blanks anew", x.put(3, 59, 65), 1032);
    }

    private static void promise9Put() {
        CardPasses x = new CardPasses();
        Check.finding("put to nothing", x, x.put(0, 0, 1), NOTHING);
        x.text(0, 2);
        Check.due("put", x.put(0, 1, 200), 1032);
        Check.due("put cut", x.put(0, 1, 256 + 7), 1000 - 56);
        Check.due("put cut below", x.put(0, 1, -1), 1007);
        Check.due("put below", x.put(0, 1, MIN), 999);
        Check.due("put cut to nought", x.put(0, 1, 0), 1000);
        Check.finding("put behind", x, x.put(0, 2, 1), BEYOND);
        Check.finding("put ahead", x, x.put(0, -1, 1), BEYOND);
        Check.due("put text 4", x.put(4, 0, 1), BAD);
    }

    private static void fault(String signs, int want) {
        CardPasses x = new CardPasses();
        Check.write(x, 2, signs);
        Check.due("fault of '" + signs + "'", x.fault(2), want);
    }

    private static void promise10Fault() {
        fault("c123c456", NONE);
        fault("  c123   x456 ", NONE);
        fault(ALL, NONE);
        fault("c000x111w222d333t444m999    ", NONE);
        fault("", 0);
        fault("   ", 3);
        fault("c123", 4);
        fault("c123  ", 6);
        fault("c123c45", 7);
        fault("c123c", 5);
        fault("c123c45 ", 7);
        fault("c 123c456", 1);
        fault("c12a", 3);
        fault("c12/c123", 3);
        fault("c12:c123", 3);
        fault("C123", 0);
        fault("c1234c123", 4);
        fault("c123 y123", 5);
        fault(ALL + "c123", 24);
        fault(ALL + "  c123", 26);
        fault(ALL + "c", 24);
        fault(ALL + " 7", 25);
        CardPasses x = new CardPasses();
        Check.finding("fault of nothing", x, x.fault(2), NOTHING);
        Check.due("fault 4", x.fault(4), BAD);
        Check.due("fault -1", x.fault(-1), BAD);
    }

    private static void promise11Deck() {
        CardPasses x = new CardPasses();
        Check.finding("deck of nothing", x, x.deck(1), NOTHING);
        Check.due("deck 4", x.deck(4), BAD);
        Check.write(x, 1, " c123 m456");
        Check.due("deck", x.deck(1), 2);
        Check.lies("at first", x, 0, 1);
        x.turn();
        x.pass(0);
        x.punch(0, 0, 9);
        x.keep(0);
        x.keep(2);
        Check.write(x, 2, "c12");
        Check.due("deck of a fault", x.deck(2), STATE);
        Check.due("a refused deck stays", x.count(2), 3);
        Check.due("kept", x.count(9), 2);
        Check.due("deck anew", x.deck(1), 2);
        Check.due("no passes", x.count(1), 0);
        Check.due("no deeds", x.count(2), 0);
        Check.due("none kept", x.count(9), 0);
        Check.lies("anew", x, 0, 1);
        Check.told("figure anew", x, x.card(0, 1), 1);
        Check.write(x, 0, ALL);
        Check.due("deck of six", x.deck(0), 6);
    }

    private static void promise12Card() {
        CardPasses x = Check.deckOf(ALL);
        int[][] facts = {
            {0, 5, 0, 3, 0, 5, 0, 3}, {1, 1, 7, 4, 1, 4, 7, 1}, {2, 8, 3, 0, 2, 8, 3, 0},
            {3, 2, 9, 1, 3, 9, 9, 2}, {4, 0, 4, 6, 4, 10, 4, 6}, {5, 9, 6, 2, 5, 0, 6, 0}};
        for (int i = 0; i < 6; i++) {
            for (int what = 0; what < 8; what++) {
                Check.told("card " + i + " " + what, x, x.card(i, what), facts[i][what]);
            }
        }
        for (int k = 0; k < 8; k++) {
            x.pass(1);
        }
        Check.told("worn twice", x, x.card(2, 5), 6);
        Check.told("worn down", x, x.card(2, 7), 0);
        Check.told("torn nought", x, x.card(4, 5), 10);
        Check.told("torn and worn", x, x.card(4, 6), 2);
        Check.due("card 6", x.card(6, 0), BAD);
        Check.due("card -1", x.card(-1, 0), BAD);
        Check.due("what 8", x.card(0, 8), BAD);
        Check.due("what -1", x.card(0, -1), BAD);
        CardPasses two = Check.deckOf("c123c123");
        Check.due("card 2 of 2", two.card(2, 0), BAD);
    }

    private static void promise13Mark() {
        CardPasses x = Check.deckOf(ALL);
        int no = FINDING;
        int[][] marks = {{no, no, no, no, no}, {2, no, no, no, no}, {no, 0, no, no, no},
            {no, no, 2, no, no}, {no, 0, no, 1, no}, {no, no, 0, no, 5}};
        for (int i = 0; i < 6; i++) {
            for (int kind = 1; kind < 6; kind++) {
                Check.due("mark " + i + " " + kind, x.mark(i, kind), marks[i][kind - 1]);
            }
        }
        Check.finding("mark of another kind", x, x.mark(2, 4), UNLIKE);
        Check.due("mark 0", x.mark(0, 0), BAD);
        Check.due("mark 6", x.mark(0, 6), BAD);
        Check.due("mark of card 6", x.mark(6, 1), BAD);
        Check.due("mark without cards", new CardPasses().mark(0, 1), BAD);
        for (int k = 0; k < 40; k++) {
            Check.due("worn by " + k, x.mark(2, 2), k / 4);
            x.pass(0);
        }
        Check.due("worn by nine at most", x.mark(2, 2), 9);
        Check.due("torn and worn by nine", x.mark(4, 2), 9);
        Check.due("master on top", x.mark(5, 5), 0);
        CardPasses y = Check.deckOf("x474m120t000");
        Check.due("cut like a card", y.mark(0, 1), 0);
        Check.due("master that reads more", y.mark(1, 3), 2);
        Check.due("torn all over", y.mark(2, 4), 3);
    }

    private static void promise14Pass() {
        CardPasses x = Check.deckOf(ALL);
        Check.due("pass 0", x.pass(0), 5);
        Check.lies("pass 0", x, 5, 1, 0, 2, 3, 4);
        x = Check.deckOf(ALL);
        Check.due("pass 1", x.pass(1), 0);
        Check.lies("pass 1", x, 0, 2, 4, 5, 1, 3);
        x = Check.deckOf(ALL);
        Check.due("pass 2", x.pass(2), 5);
        Check.lies("pass 2", x, 5, 2, 1, 3, 0, 4);
        x = Check.deckOf("c000t000m000m000c000");
        Check.due("masters lead", x.pass(1), 2);
        Check.lies("masters lead", x, 2, 3, 0, 4, 1);
        x = Check.deckOf("m100c000");
        Check.due("masters lead in their pocket alone", x.pass(0), 1);
        x = Check.deckOf("c100w200");
        for (int k = 0; k < 8; k++) {
            Check.due("worn, not yet", x.pass(0), 0);
        }
        Check.due("worn by two", x.pass(0), 1);
        Check.due("pass 3", x.pass(3), BAD);
        Check.due("pass -1", x.pass(-1), BAD);
        Check.due("passes", x.count(1), 9);
        CardPasses none = new CardPasses();
        Check.due("pass 3 without cards", none.pass(3), BAD);
        Check.due("pass without cards", none.pass(0), STATE);
        allButOne(x);
        Check.due("the fortieth deed a pass", x.pass(0), 1);
        Check.due("pass full", x.pass(0), FULL);
        Check.due("pass 3 full", x.pass(3), BAD);
    }

    private static void allButOne(CardPasses x) {
        while (x.count(2) < 39) {
            x.turn();
        }
    }

    private static void promise15Turn() {
        CardPasses x = Check.deckOf(ALL);
        Check.due("turn", x.turn(), 5);
        Check.lies("turned", x, 5, 4, 3, 2, 1, 0);
        CardPasses y = Check.deckOf("c111c222c333");
        Check.due("turn three", y.turn(), 2);
        Check.lies("turned three", y, 2, 1, 0);
        Check.due("a deed", x.count(2), 1);
        Check.due("no pass", x.count(1), 0);
        allButOne(x);
        Check.due("the fortieth deed a turn", x.turn(), 0);
        Check.due("turn full", x.turn(), FULL);
        Check.due("turn without cards", new CardPasses().turn(), STATE);
    }

    private static void promise16Lift() {
        CardPasses x = Check.deckOf(ALL);
        Check.due("lift 2", x.lift(2), 2);
        Check.lies("lifted 2", x, 2, 3, 4, 5, 0, 1);
        Check.due("lift 5", x.lift(5), 1);
        Check.lies("lifted 5", x, 1, 2, 3, 4, 5, 0);
        Check.due("lift 0", x.lift(0), BAD);
        Check.due("lift 6", x.lift(6), BAD);
        Check.due("lift MIN", x.lift(MIN), BAD);
        Check.due("lift 0 without cards", new CardPasses().lift(0), STATE);
        Check.due("lift 1 without cards", new CardPasses().lift(1), STATE);
        Check.due("lift 1 of 2", Check.deckOf("c111c222").lift(1), 1);
        allButOne(x);
        Check.due("the fortieth deed a lift", x.lift(1), 5);
        Check.due("lift 6 full", x.lift(6), BAD);
        Check.due("lift full", x.lift(1), FULL);
    }

    private static void promise17Punch() {
        CardPasses x = Check.deckOf(ALL);
        Check.due("punch", x.punch(2, 0, 0), 8);
        Check.told("punched", x, x.card(2, 1), 0);
        Check.due("punched so", x.punch(2, 0, 0), STATE);
        Check.due("punch 10", x.punch(2, 0, 10), BAD);
        Check.due("punch -1", x.punch(2, 0, -1), BAD);
        Check.due("punch column 3", x.punch(2, 3, 1), BAD);
        Check.due("punch column -1", x.punch(2, -1, 1), BAD);
        Check.due("punch card 6", x.punch(6, 0, 1), BAD);
        Check.due("punch without cards", new CardPasses().punch(0, 0, 1), BAD);
        Check.due("a deed", x.count(2), 1);
        allButOne(x);
        Check.due("the fortieth deed a punch", x.punch(0, 0, 4), 5);
        Check.due("punch as it is, full", x.punch(0, 2, 3), STATE);
        Check.due("punch full", x.punch(0, 2, 4), FULL);
    }

    private static void promise18Undo() {
        CardPasses x = Check.deckOf(ALL);
        Check.due("undo of none", x.undo(0), 0);
        Check.due("undo behind none", x.undo(1), BAD);
        x.pass(0);
        x.turn();
        x.punch(0, 0, 9);
        x.pass(2);
        x.lift(3);
        long before = x.digest();
        Check.due("undo from just behind the deeds", x.undo(5), 0);
        Check.due("undo farther behind", x.undo(6), BAD);
        Check.due("undo -1", x.undo(-1), BAD);
        Check.due("undo MAX", x.undo(MAX), BAD);
        Check.due("undo MIN", x.undo(MIN), BAD);
        Check.due("none undone", x.digest(), before);
        Check.due("no finding", x.finding(), 0);
        Check.due("undo 2", x.undo(2), 3);
        Check.lies("undone", x, 4, 3, 2, 0, 1, 5);
        Check.told("figure undone", x, x.card(0, 1), 5);
        Check.due("passes undone", x.count(1), 1);
        Check.due("deeds undone", x.count(2), 2);
        Check.due("undo all", x.undo(0), 2);
        Check.lies("all undone", x, 0, 1, 2, 3, 4, 5);
        Check.due("undo all once more", x.undo(0), 0);
        allButOne(x);
        x.turn();
        Check.due("undo from behind forty", x.undo(40), 0);
        Check.due("undo the fortieth", x.undo(39), 1);
        Check.due("undo without cards", new CardPasses().undo(0), 0);
        Check.due("undo 1 without cards", new CardPasses().undo(1), BAD);
    }

    private static void promise19Keep() {
        CardPasses x = new CardPasses();
        Check.due("keep 3 without cards", x.keep(3), BAD);
        Check.due("keep without cards", x.keep(0), STATE);
        x = Check.deckOf(ALL);
        Check.due("keep", x.keep(0), 0);
        x.turn();
        Check.due("keep behind a deed", x.keep(2), 1);
        Check.due("keep 3", x.keep(3), BAD);
        Check.due("keep -1", x.keep(-1), BAD);
        Check.due("kept", x.count(9), 2);
        x.turn();
        Check.due("keep anew", x.keep(2), 2);
        Check.due("still kept", x.count(9), 2);
    }

    private static void promise20On() {
        CardPasses x = Check.deckOf(ALL);
        Check.finding("on nothing", x, x.on(0), NOTHING);
        Check.due("on 3", x.on(3), BAD);
        Check.due("on -1", x.on(-1), BAD);
        x.pass(1);
        x.punch(4, 0, 7);
        x.keep(1);
        x.lift(1);
        x.pass(0);
        x.punch(4, 0, 1);
        Check.due("on", x.on(1), 2);
        Check.lies("gone on", x, 0, 2, 4, 5, 1, 3);
        Check.told("figure gone on", x, x.card(4, 1), 7);
        Check.due("passes gone on", x.count(1), 1);
        Check.due("undo what was kept", x.undo(1), 1);
        Check.told("figure as read", x, x.card(4, 1), 0);
        x.undo(0);
        x.turn();
        Check.due("on once more", x.on(1), 2);
        Check.lies("gone on once more", x, 0, 2, 4, 5, 1, 3);
        x.deck(0);
        Check.finding("kept decks go", x, x.on(1), NOTHING);
    }

    private static void promise21Pocket() {
        CardPasses x = Check.deckOf(ALL);
        Check.due("plain", x.pocket(0, 0, 60), 5);
        Check.due("cut", x.pocket(1, 2, 3), 1);
        Check.due("worn 3", x.pocket(2, 0, 3), 8);
        Check.due("worn 4", x.pocket(2, 0, 4), 7);
        Check.due("worn 60", x.pocket(2, 0, 60), 0);
        Check.due("double", x.pocket(3, 2, 0), 2);
        Check.due("torn", x.pocket(4, 0, 60), 10);
        Check.due("torn and worn", x.pocket(4, 1, 16), 0);
        Check.due("master", x.pocket(5, 0, 0), 0);
        Check.due("master that reads less than nine", x.pocket(5, 1, 0), 6);
        Check.due("61 passes", x.pocket(0, 0, 61), BAD);
        Check.due("-1 passes", x.pocket(0, 0, -1), BAD);
        Check.due("column 3", x.pocket(0, 3, 0), BAD);
        Check.due("card 6", x.pocket(6, 0, 0), BAD);
        Check.due("without cards", new CardPasses().pocket(0, 0, 0), BAD);
        x.punch(0, 0, 6);
        Check.due("as it is", x.pocket(0, 0, 0), 6);
    }

    private static void promise22Run() {
        CardPasses x = Check.deckOf(ALL);
        Check.fill(x, 1, 2, 1, 0);
        Check.due("run", x.run(1, 2), 5);
        Check.row("run", x, 2, 5, 1, 0, 2, 3, 4);
        Check.fill(x, 1, 2);
        Check.due("run into itself", x.run(1, 1), 5);
        Check.row("run into itself", x, 1, 5, 2, 1, 3, 0, 4);
        Check.lies("the deck stays", x, 0, 1, 2, 3, 4, 5);
        Check.due("no deed", x.count(2), 0);
        x.row(1, 0);
        Check.due("run by none", x.run(1, 2), 0);
        Check.row("run by none", x, 2, 0, 1, 2, 3, 4, 5);
        Check.finding("run by nothing", x, x.run(5, 2), NOTHING);
        Check.fill(x, 1, 0, 3);
        Check.finding("run by column 3", x, x.run(1, 2), UNLIKE);
        Check.fill(x, 1, -1);
        Check.finding("run by column -1", x, x.run(1, 2), UNLIKE);
        Check.fill(x, 1, 9, 9, 9, 9, 9, 9, 9, 9, 9, 9, 9);
        Check.finding("run by eleven", x, x.run(1, 2), SIZE);
        Check.due("run 6", x.run(6, 2), BAD);
        Check.due("run to 6", x.run(5, 6), BAD);
        Check.row("refused runs change nothing", x, 2, 0, 1, 2, 3, 4, 5);
        CardPasses none = new CardPasses();
        Check.due("run without cards", none.run(0, 1), STATE);
        Check.due("run 6 without cards", none.run(6, 1), BAD);
        CardPasses worn = Check.deckOf("c100w200");
        Check.fill(worn, 0, 0, 0, 0, 0, 0, 0, 0, 0);
        Check.due("eight passes", worn.run(0, 1), 0);
        Check.fill(worn, 0, 0, 0, 0, 0, 0, 0, 0, 0, 0, 0);
        Check.due("ten passes wear it down", worn.run(0, 1), 1);
    }

    private static void promise23Fewest() {
        CardPasses x = Check.deckOf(ALL);
        Check.fill(x, 3, 8, 8);
        Check.due("fewest 0", x.fewest(2, 2, 3), 0);
        Check.row("by none", x, 3);
        Check.due("fewest 1", x.fewest(1, 4, 3), 1);
        Check.row("by column 1", x, 3, 1);
        Check.fill(x, 3, 8, 8);
        Check.due("fewest none", x.fewest(3, 2, 3), NONE);
        Check.row("NONE leaves the row", x, 3, 8, 8);
        Check.due("place 6", x.fewest(0, 6, 3), BAD);
        Check.due("place -1", x.fewest(0, -1, 3), BAD);
        Check.due("card 6", x.fewest(6, 0, 3), BAD);
        Check.due("row 6", x.fewest(0, 0, 6), BAD);
        Check.due("without cards", new CardPasses().fewest(0, 0, 0), BAD);
        // One pass leaves card 0 at place 0 or 1; 0, 1 and 1, 0 both bring it to place 2.
        CardPasses y = Check.deckOf("c110c100c010");
        Check.due("fewest 2", y.fewest(0, 2, 0), 2);
        Check.row("the first two columns", y, 0, 0, 1);
        // The ninth pass is the first by which card 1 falls below card 0.
        CardPasses worn = Check.deckOf("c111w222");
        Check.due("not worn enough", worn.fewest(1, 0, 0), NONE);
        for (int k = 0; k < 4; k++) {
            worn.pass(0);
        }
        Check.due("five passes", worn.fewest(1, 0, 0), 5);
        Check.row("the first columns", worn, 0, 0, 0, 0, 0, 0);
    }

    private static void promise24Order() {
        CardPasses x = Check.deckOf(ALL);
        for (int column = 0; column < 3; column++) {
            Check.due("order " + column, x.order(column, 3), 1);
            Check.row("order " + column, x, 3, column);
        }
        x.pass(2);
        Check.due("in order", x.order(2, 3), 0);
        Check.row("in order", x, 3);
        Check.due("order 3", x.order(3, 3), BAD);
        Check.due("order row 6", x.order(0, 6), BAD);
        CardPasses none = new CardPasses();
        Check.due("order without cards", none.order(0, 0), STATE);
        Check.due("order 3 without cards", none.order(3, 0), BAD);
        // What they read then: the fourth pass makes both read 1.
        CardPasses worn = Check.deckOf("w200c100");
        worn.turn();
        worn.pass(1);
        worn.pass(1);
        worn.pass(1);
        worn.turn();
        Check.due("one pass wears it", worn.order(0, 0), 1);
        Check.row("by column 0", worn, 0, 0);
        // The fourth pass wears card 1 behind its back, so that a fifth must follow.
        CardPasses twice = Check.deckOf("c100w100c000");
        twice.pass(1);
        twice.pass(1);
        twice.pass(1);
        Check.due("two passes", twice.order(0, 0), 2);
        Check.row("two passes", twice, 0, 0, 0);
    }

    private static void promise25Columns() {
        CardPasses x = Check.deckOf(ALL);
        Check.fill(x, 0, 5, 1, 0, 2, 3, 4);
        Check.due("by column 0", x.columns(0), 1);
        Check.fill(x, 0, 0, 2, 4, 5, 1, 3);
        Check.due("by column 1", x.columns(0), 2);
        Check.fill(x, 0, 5, 2, 1, 3, 0, 4);
        Check.due("by column 2", x.columns(0), 4);
        Check.fill(x, 0, 0, 1, 2, 3, 4, 5);
        Check.due("by none", x.columns(0), 0);
        Check.fill(x, 0, 0, 1, 2, 3, 4, 4);
        Check.finding("twice", x, x.columns(0), UNLIKE);
        Check.fill(x, 0, 0, 1, 2, 3, 4, 6);
        Check.finding("card 6", x, x.columns(0), UNLIKE);
        Check.fill(x, 0, 0, 1, 2, 3, 4, -1);
        Check.finding("card -1", x, x.columns(0), UNLIKE);
        Check.fill(x, 0, 9, 1, 2, 3, 4, 5);
        Check.finding("card 9 on top", x, x.columns(0), UNLIKE);
        Check.fill(x, 0, 0, 1, 2, 3, 9);
        Check.finding("too few", x, x.columns(0), SIZE);
        Check.finding("nothing", x, x.columns(1), NOTHING);
        Check.due("row 6", x.columns(6), BAD);
        CardPasses none = new CardPasses();
        Check.due("row 6 without cards", none.columns(6), BAD);
        Check.due("without cards", none.columns(0), STATE);
        CardPasses y = Check.deckOf("c010c101");
        Check.fill(y, 0, 0, 1);
        Check.due("by two columns", y.columns(0), 5);
    }

    private static void promise26Kinds() {
        CardPasses x = Check.deckOf(ALL);
        x.row(0, 0);
        Check.due("by nothing told", x.kinds(4, 0), 63);
        Check.fill(x, 0, 0, 5);
        Check.due("a plain card", x.kinds(0, 0), 61);
        Check.fill(x, 0, 0, 3);
        Check.due("a cut card", x.kinds(0, 0), 2);
        Check.fill(x, 0, 1, 10);
        Check.due("a torn card", x.kinds(0, 0), 16);
        Check.fill(x, 0, 0, 9, 1, 9);
        Check.due("a double", x.kinds(3, 0), 8);
        Check.fill(x, 0, 0, 0, 1, 0);
        Check.due("a master", x.kinds(3, 0), 32);
        x.pass(0);
        x.pass(0);
        x.pass(0);
        x.pass(0);
        Check.fill(x, 0, 0, 4, 1, 0);
        Check.due("a worn card", x.kinds(0, 0), 4);
        clueRefusals(x, 26);
    }

    private static int clue(CardPasses x, int promise, int i, int r) {
        if (promise == 26) {
            return x.kinds(i, r);
        }
        return promise == 27 ? x.figures(i, 0, r) : x.next(i, r);
    }

    private static void clueRefusals(CardPasses x, int promise) {
        String of = "promise " + promise + " ";
        Check.due(of + "card 6", clue(x, promise, 6, 0), BAD);
        Check.due(of + "card -1", clue(x, promise, -1, 0), BAD);
        Check.due(of + "row 6", clue(x, promise, 0, 6), BAD);
        Check.due(of + "without cards", clue(new CardPasses(), promise, 0, 0), BAD);
        Check.finding(of + "nothing", x, clue(x, promise, 0, 5), NOTHING);
        x.row(1, 3);
        Check.finding(of + "odd", x, clue(x, promise, 0, 1), SIZE);
        x.row(1, 18);
        Check.finding(of + "nine pairs", x, clue(x, promise, 0, 1), SIZE);
        Check.fill(x, 1, 3, 0);
        Check.finding(of + "column 3", x, clue(x, promise, 0, 1), UNLIKE);
        Check.fill(x, 1, -1, 0);
        Check.finding(of + "column -1", x, clue(x, promise, 0, 1), UNLIKE);
        Check.fill(x, 1, 0, 11);
        Check.finding(of + "pocket 11", x, clue(x, promise, 0, 1), UNLIKE);
        Check.fill(x, 1, 0, 5, 0, -1);
        Check.finding(of + "pocket -1", x, clue(x, promise, 0, 1), UNLIKE);
        x.row(1, 16);
        Check.due(of + "eight pairs", clue(x, promise, 0, 1) != FINDING ? 1 : 0, 1);
    }

    private static void promise27Figures() {
        CardPasses x = Check.deckOf(ALL);
        x.row(0, 0);
        Check.due("by nothing told", x.figures(2, 1, 0), 1023);
        Check.fill(x, 0, 0, 5);
        Check.due("plain", x.figures(0, 0, 0), 32);
        Check.due("of another column", x.figures(0, 1, 0), 1023);
        Check.fill(x, 0, 0, 6);
        Check.due("of another column, never", x.figures(0, 1, 0), 0);
        Check.fill(x, 0, 0, 8);
        Check.due("cut", x.figures(1, 2, 0), 1 << 8);
        Check.fill(x, 0, 1, 9);
        Check.due("double", x.figures(3, 2, 0), 1023);
        Check.fill(x, 0, 2, 2);
        Check.due("double of which one is 2", x.figures(3, 2, 0), 7);
        Check.fill(x, 0, 0, 10);
        Check.due("torn", x.figures(4, 0, 0), 1);
        Check.fill(x, 0, 1, 0);
        Check.due("master", x.figures(5, 1, 0), 1 << 9);
        for (int k = 0; k < 9; k++) {
            x.pass(0);
        }
        Check.fill(x, 0, 0, 0);
        Check.due("worn", x.figures(2, 0, 0), 7);
        Check.due("torn and worn", x.figures(4, 0, 0), 6);
        Check.due("column 3", x.figures(0, 3, 0), BAD);
        Check.due("column -1", x.figures(0, -1, 0), BAD);
        clueRefusals(x, 27);
    }

    private static void promise28Next() {
        CardPasses x = Check.deckOf(ALL);
        Check.fill(x, 0, 0, 5);
        Check.due("next", x.next(0, 0), 1);
        Check.due("next part", x.asked(), 2);
        Check.fill(x, 0, 0, 6);
        x.card(3, 6);
        Check.due("no kind", x.next(0, 0), NONE);
        Check.due("NONE leaves asked", x.asked(), 9);
        Check.fill(x, 0, 1, 10);
        Check.due("one kind", x.next(0, 0), 0);
        Check.due("one kind part", x.asked(), 1);
        CardPasses same = Check.deckOf("c111c111");
        same.row(0, 0);
        Check.due("all alike: the first", same.next(0, 0), 0);
        Check.due("all alike", same.asked(), 6);
        CardPasses noughts = Check.deckOf("c000c000");
        noughts.row(0, 0);
        for (int k = 0; k < 3; k++) {
            noughts.next(0, 0);
            Check.due("all but the torn one", noughts.asked(), 5);
        }
        clueRefusals(x, 28);
    }

    private static void promise29Sets() {
        CardPasses x = Check.deckOf(ALL);
        Check.parts("sets 0 5", x, x.sets(0, 5), 2, 1);
        Check.due("the first", x.asked(), 1);
        Check.parts("sets 1 16", x, x.sets(1, 16), 6, 1);
        Check.due("the first", x.asked(), 10);
        Check.parts("no cards at all, too", x, x.sets(0, 0), 2, 1);
        Check.due("the first", x.asked(), 0);
        Check.parts("sets 2 54", x, x.sets(2, 54), 0, 1);
        Check.due("none", x.asked(), NONE);
        Check.due("sum 55", x.sets(0, 55), BAD);
        Check.due("sum -1", x.sets(0, -1), BAD);
        Check.due("column 3", x.sets(3, 0), BAD);
        CardPasses none = new CardPasses();
        Check.due("column 3 without cards", none.sets(3, 0), BAD);
        Check.due("without cards", none.sets(0, 0), STATE);
        CardPasses nines = Check.deckOf("c999c999c999c999c999c999");
        Check.parts("all nines", nines, nines.sets(1, 54), 1, 1);
        Check.due("all of them", nines.asked(), 63);
        Check.parts("three nines", nines, nines.sets(1, 27), 20, 1);
    }

    private static void promise30Sure() {
        CardPasses x = Check.deckOf(ALL);
        Check.due("sure 0 5", x.sure(0, 5), 1);
        Check.due("never", x.asked(), 46);
        Check.due("sure 0 0", x.sure(0, 0), 0);
        Check.due("never", x.asked(), 47);
        Check.finding("no set", x, x.sure(2, 54), NOUGHT);
        Check.due("refused leaves asked", x.asked(), 47);
        Check.due("sum 55", x.sure(0, 55), BAD);
        Check.due("column -1", x.sure(-1, 0), BAD);
        CardPasses none = new CardPasses();
        Check.due("sum 55 without cards", none.sure(0, 55), BAD);
        Check.due("without cards", none.sure(0, 54), STATE);
        CardPasses two = Check.deckOf("c100c200");
        Check.due("both", two.sure(0, 3), 3);
        Check.due("never one", two.asked(), 0);
    }

    private static void promise31Duel() {
        CardPasses x = Check.deckOf(ALL);
        Check.told("no turns", x, x.duel(0, 5, 0), 5);
        Check.told("no turns, the other way", x, x.duel(5, 0, 0), -5);
        Check.told("a turn each", x, x.duel(2, 4, 1), 1);
        Check.told("three turns each", x, x.duel(1, 3, 3), 1);
        Check.lies("the deck stays", x, 0, 1, 2, 3, 4, 5);
        CardPasses two = Check.deckOf("c100c000");
        Check.told("the other one passes", two, two.duel(0, 1, 1), -1);
        Check.told("the first one need not", two, two.duel(1, 0, 1), 1);
        CardPasses same = Check.deckOf("c000c000");
        Check.told("nothing to be done", same, same.duel(0, 1, 3), 1);
        // By the ninth pass card 1 falls below card 0: the first one must not make the eighth.
        CardPasses worn = Check.deckOf("c111w222");
        for (int k = 0; k < 7; k++) {
            worn.pass(0);
        }
        Check.told("better not", worn, worn.duel(0, 1, 1), 1);
        worn.pass(0);
        Check.told("too late", worn, worn.duel(0, 1, 1), -1);
        Check.due("four turns", x.duel(0, 1, 4), BAD);
        Check.due("-1 turns", x.duel(0, 1, -1), BAD);
        Check.due("the same one", x.duel(2, 2, 1), BAD);
        Check.due("card 6", x.duel(6, 1, 1), BAD);
        Check.due("other card 6", x.duel(1, 6, 1), BAD);
        Check.due("without cards", new CardPasses().duel(0, 1, 0), BAD);
    }

    private static void promise32Odds() {
        CardPasses x = Check.deckOf("c000c100");
        Check.parts("never misread", x, x.odds(0, 0, 0), 1, 1);
        Check.parts("always misread", x, x.odds(0, 0, 12), 1, 1);
        Check.parts("by 6", x, x.odds(0, 0, 6), 3, 4);
        Check.parts("by 4", x, x.odds(0, 0, 4), 7, 9);
        Check.parts("the other by 4", x, x.odds(1, 0, 4), 2, 9);
        Check.parts("the other never", x, x.odds(1, 0, 0), 0, 1);
        CardPasses all = Check.deckOf(ALL);
        Check.parts("a master leads misread ones", all, all.odds(5, 2, 6), 33, 64);
        Check.parts("a torn one", all, all.odds(4, 1, 4), 2, 27);
        Check.lies("the deck stays", all, 0, 1, 2, 3, 4, 5);
        chanceRefusals(x, true);
    }

    private static int chance(CardPasses x, boolean odds, int i, int column, int p) {
        return odds ? x.odds(i, column, p) : x.mid(i, column, p);
    }

    private static void chanceRefusals(CardPasses x, boolean odds) {
        Check.due("by 13", chance(x, odds, 0, 0, 13), BAD);
        Check.due("by -1", chance(x, odds, 0, 0, -1), BAD);
        Check.due("column 3", chance(x, odds, 0, 3, 0), BAD);
        Check.due("card 2 of 2", chance(x, odds, 2, 0, 0), BAD);
        Check.due("without cards", chance(new CardPasses(), odds, 0, 0, 0), BAD);
    }

    private static void promise33Mid() {
        CardPasses x = Check.deckOf("c000c100");
        Check.parts("never misread", x, x.mid(0, 0, 0), 0, 1);
        Check.parts("by 6", x, x.mid(0, 0, 6), 1, 4);
        Check.parts("the other by 6", x, x.mid(1, 0, 6), 3, 4);
        Check.parts("the other by 4", x, x.mid(1, 0, 4), 7, 9);
        CardPasses all = Check.deckOf(ALL);
        Check.parts("by none of six", all, all.mid(0, 0, 0), 2, 1);
        Check.parts("by 5 of six", all, all.mid(3, 1, 5), 65, 18);
        Check.parts("all misread", all, all.mid(1, 2, 12), 2, 1);
        chanceRefusals(x, false);
    }

    private static int byLots(CardPasses x, int n, int seed, int cards) {
        long lot = seed;
        int top = NONE;
        for (int k = 0; k < n; k++) {
            lot = lot * 48271 % 2147483647;
            int it = (int) lot;
            int what = it / 8 % 8;
            if (what < 5) {
                top = x.pass(it % 3);
            } else if (what == 5) {
                top = x.turn();
            } else if (what == 6) {
                top = x.lift(1 + it / 64 % (cards - 1));
            } else if (x.punch(it / 64 % cards, it % 3, it / 512 % 10) < 0) {
                return STATE;
            }
        }
        return x.count(3);
    }

    private static void promise34Lots() {
        CardPasses one = Check.deckOf(ALL);
        Check.due("48271 is a pass by column 1", one.lots(1, 1), 0);
        Check.lies("48271", one, 0, 2, 4, 5, 1, 3);
        int like = 0;
        for (int seed = 1; seed < 200; seed++) {
            CardPasses x = Check.deckOf(ALL);
            CardPasses y = Check.deckOf(ALL);
            int want = byLots(y, 20, seed, 6);
            if (want != STATE) {
                like++;
                Check.due("lots of " + seed, x.lots(20, seed), want);
                Check.due("digest of lots of " + seed, x.digest(), y.digest());
            }
        }
        Check.due("seeds without a figure as it is", like > 50 ? 1 : 0, 1);
        CardPasses x = Check.deckOf("c123c456");
        Check.due("no lots", x.lots(0, 1), BAD);
        Check.due("21 lots", x.lots(21, 1), BAD);
        Check.due("seed 0", x.lots(1, 0), BAD);
        Check.due("seed MAX", x.lots(1, MAX), BAD);
        Check.due("the greatest seed", x.lots(1, MAX - 1) >= 0 ? 1 : 0, 1);
        x.lots(20, 5);
        Check.due("deeds in any case", x.count(2), 21);
        Check.due("too many", x.lots(20, 5), FULL);
        Check.due("just as many", x.lots(19, 5) >= 0 ? 1 : 0, 1);
        Check.due("full", x.lots(1, 5), FULL);
        Check.due("BAD ahead of FULL", x.lots(0, 5), BAD);
        Check.due("undone", x.undo(0), 40);
        CardPasses none = new CardPasses();
        Check.due("without cards", none.lots(1, 1), STATE);
        Check.due("seed 0 without cards", none.lots(1, 0), BAD);
    }

    private static void promise35Asked() {
        CardPasses x = new CardPasses();
        Check.due("asked before", x.asked(), 0);
        x = Check.deckOf(ALL);
        Check.fill(x, 0, 5, 7);
        Check.told("lay", x, x.lay(0, 0, 9), 5);
        Check.told("at", x, x.at(0, 0), 9);
        Check.told("mean", x, x.mean(0), 8);
        Check.told("card", x, x.card(4, 5), 10);
        x.mark(5, 5);
        x.pocket(0, 0, 0);
        x.pass(0);
        x.digest();
        x.count(0);
        x.odds(0, 0, 4);
        Check.due("others leave asked", x.asked(), 10);
        x.card(9, 0);
        Check.due("refused leaves asked", x.asked(), 10);
        Check.told("duel", x, x.duel(5, 4, 0), 5);
        x.sure(0, 5);
        Check.due("sure", x.asked(), 46);
        x.sets(0, 14);
        Check.due("sets", x.asked(), 1 + 2 + 4);
        x.row(1, 0);
        x.next(0, 1);
        Check.due("next", x.asked(), 3);
    }

    private static void promise36And37UpperLower() {
        CardPasses x = Check.deckOf("c000c100");
        Check.due("upper before", x.upper(), 0);
        Check.due("lower before", x.lower(), 1);
        x.odds(0, 0, 6);
        x.odds(0, 0, 13);
        x.sure(0, 0);
        Check.due("upper stays", x.upper(), 3);
        Check.due("lower stays", x.lower(), 4);
        x.sets(0, 1);
        Check.due("upper of sets", x.upper(), 2);
        Check.due("lower of sets", x.lower(), 1);
        x.mid(0, 0, 0);
        Check.due("upper of nought", x.upper(), 0);
        Check.due("lower of nought", x.lower(), 1);
    }

    private static void promise38Count() {
        CardPasses x = Check.deckOf(ALL);
        x.pass(0);
        x.turn();
        x.keep(1);
        x.row(3, 0);
        x.row(4, 1);
        x.text(2, 0);
        int[] want = {6, 1, 2, 4, 8 + 12 + 11 + 12 + 10 + 17, 2, 2, 2, 2, 1};
        for (int what = 0; what < 10; what++) {
            Check.due("count " + what, x.count(what), want[what]);
        }
        x.punch(0, 1, 9);
        Check.due("figures punched", x.count(4), 79);
        Check.due("worn on top", Check.deckOf("w111c222").count(5), 1);
        Check.due("double on top", Check.deckOf("d111c222").count(6), 1);
        Check.due("count 10", x.count(10), BAD);
        Check.due("count -1", x.count(-1), BAD);
    }

    private static void promise39And40Findings() {
        CardPasses x = Check.deckOf("c111w222");
        Check.due("before", x.finding(), 0);
        x.at(0, 0);
        x.at(1, 0);
        x.row(0, 0);
        x.at(0, 0);
        x.mark(0, 2);
        x.mean(0);
        x.row(0, -1);
        x.row(9, 0);
        x.undo(9);
        Check.due("latest", x.finding(), SIZE);
        int[] want = {2, 1, 1, 1, 1};
        for (int f = NOTHING; f <= SIZE; f++) {
            Check.due("findings " + f, x.findings(f), want[f - 1]);
        }
        Check.due("findings 0", x.findings(0), BAD);
        Check.due("findings 6", x.findings(6), BAD);
        Check.due("findings MIN", x.findings(MIN), BAD);
    }

    private static long on(long h, long... values) {
        for (long v : values) {
            h = 31 * h + v;
        }
        return h;
    }

    private static void promise41Digest() {
        long h = on(17, 0, 0, 0, -9, 0, 0, 0, 0, 0, 0);
        h = on(h, -1, -1, -1);
        h = on(h, -1, -1, -1, -1, -1, -1);
        h = on(h, -1, -1, -1, -1);
        Check.due("digest of a new object", new CardPasses().digest(), h);
        CardPasses x = Check.deckOf("c120w345");
        x.turn();
        x.keep(1);
        Check.fill(x, 2, 7, -8);
        x.text(3, 1);
        x.put(3, 0, 200);
        h = on(17, 2, 0, 1, 1, 15, 1, 0, 1, 2, 1);
        h = on(h, 0, 1, 2, 0, 1, 1, 2, 0);
        h = on(h, 2, 3, 4, 5, 0, 3, 4, 5);
        h = on(h, -1, 1, -1);
        h = on(h, -1, -1, 2, 7, -8, -1, -1, -1);
        h = on(h, 8, 'c', '1', '2', '0', 'w', '3', '4', '5', -1, -1, 1, -56);
        Check.due("digest", x.digest(), h);
    }
}
