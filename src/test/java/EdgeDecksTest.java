/** Boundary cases of promises 10 to 13: faults, decks, cards, marks. */
final class EdgeDecksTest {
    private static final int BAD = Edge.BAD, STATE = Edge.STATE, NONE = Edge.NONE;
    private static final int NOTHING = Edge.NOTHING, UNLIKE = Edge.UNLIKE;

    private EdgeDecksTest() {
    }

    public static void main(String[] args) throws Exception {
        Edge.runAll(EdgeDecksTest.class);
    }

    // ---- 10 fault

    private static void fault(String signs, int due) {
        CardPasses x = Edge.busy();
        Check.write(x, 3, signs);
        long before = x.digest();
        Check.due("fault of '" + signs + "'", x.fault(3), due);
        Check.due("fault of '" + signs + "' changes nothing", x.digest(), before);
    }

    static void promise10FaultBlanksAsManyAsWanted() {
        fault("c123c456", NONE);
        fault("c123 c456", NONE);
        fault(" c123c456 ", NONE);
        fault(" ".repeat(20) + "c123" + " ".repeat(12) + "c456" + " ".repeat(20), NONE);
        fault(" ".repeat(52) + "c123c456", NONE);
        fault("c123c456" + " ".repeat(52), NONE);
    }

    static void promise10FaultNoBlanksWithinItems() {
        fault("c 123c456", 1);
        fault("c1 23c456", 2);
        fault("c12 3c456", 3);
        fault("c123c 456", 5);
    }

    static void promise10FaultNoOtherBlanks() {
        fault("c123\tc456", 4);
        fault("c123\nc456", 4);
        fault("c123" + (char) 0 + "c456", 4);
        fault("c123c456" + (char) 0, 8);
    }

    private static int faultWith(int place, int sign) {
        CardPasses x = new CardPasses();
        Check.write(x, 0, "c123c456");
        x.put(0, place, sign);
        return x.fault(0);
    }

    static void promise10FaultEveryLetter() {
        for (int sign = -128; sign < 128; sign++) {
            // A blank leaves a figure where a letter is due.
            int due = sign == 32 ? 1 : "cxwdtm".indexOf(sign) >= 0 ? NONE : 0;
            Check.due("letter " + sign, faultWith(0, sign), due);
        }
    }

    static void promise10FaultEveryFigure() {
        for (int place = 1; place <= 3; place++) {
            for (int sign = -128; sign < 128; sign++) {
                boolean figure = sign >= 48 && sign <= 57;
                Check.due("figure " + sign, faultWith(place, sign), figure ? NONE : place);
            }
        }
    }

    static void promise10FaultASeventhCard() {
        fault(Edge.ALL, NONE);
        fault(Edge.ALL + " ".repeat(36), NONE);
        fault(Edge.ALL + "c789", 24);
        fault(Edge.ALL + " c789", 25);
        fault(Edge.ALL + "c", 24);
        fault(Edge.ALL + "q", 24);
        fault(Edge.ALL + "7", 24);
        fault(Edge.ALL + " ".repeat(35) + "c", 59);
    }

    static void promise10FaultEndTooEarly() {
        fault("c123c45", 7);
        fault("c123c4", 6);
        fault("c123c", 5);
        fault("c123" + " ".repeat(55) + "c", 60);
        fault("c", 1);
    }

    static void promise10FaultFewerThanTwoCards() {
        fault("c123", 4);
        fault(" c123 ", 6);
        fault("c123" + " ".repeat(56), 60);
        fault("c123q", 4);
    }

    static void promise10FaultBlanksAlone() {
        fault("", 0);
        fault(" ", 1);
        fault(" ".repeat(60), 60);
    }

    static void promise10FaultTheFirstOne() {
        fault("c1a3c4b6", 2);
        fault("q123c45", 0);
        fault("c1234", 4);
        fault("123", 0);
    }

    static void promise10FaultRefused() {
        Edge.found("missing", Edge::busy, NOTHING, x -> x.fault(3));
        Edge.badAround("text", Edge::busy, 0, 3, (x, t) -> x.fault(t));
        Edge.silent("fault", Edge::busy, 3, x -> x.fault(1));
        Edge.silent("no fault", Edge::busy, NONE, x -> x.fault(0));
        Edge.silent("empty", Edge::busy, 0, x -> x.fault(2));
    }

    // ---- 11 deck

    static void promise11DeckOfTwoToSix() {
        String signs = "";
        for (int n = 1; n <= 7; n++) {
            signs += "c12" + n;
            CardPasses x = new CardPasses();
            Check.write(x, 0, signs);
            Check.due("deck of " + n, x.deck(0), n < 2 || n > 6 ? STATE : n);
            Check.due("cards of " + n, x.count(0), n < 2 || n > 6 ? 0 : n);
        }
    }

    static void promise11DeckOfEachText() {
        for (int t = 0; t <= 3; t++) {
            CardPasses x = new CardPasses();
            Check.write(x, t, "c123m456");
            Check.due("deck of text " + t, x.deck(t), 2);
            Check.lies("as they come", x, 0, 1);
        }
    }

    static void promise11DeckAnew() {
        CardPasses x = Edge.full();
        Check.write(x, 2, "w321c654");
        x.at(0, 0);
        Check.due("deck", x.deck(2), 2);
        int[] due = {2, 0, 0, 0, 21, 1, 0, 6, 4, 0};
        for (int what = 0; what < 10; what++) {
            Check.due("count " + what, x.count(what), due[what]);
        }
        for (int k = 0; k < 3; k++) {
            Check.finding("kept decks go", x, x.on(k), NOTHING);
        }
        Check.due("no third card", x.card(2, 0), BAD);
        Check.told("kind", x, x.card(0, 0), 2);
        Check.told("figure", x, x.card(0, 1), 3);
        Check.due("no deeds", x.undo(1), BAD);
        Check.due("room for deeds", x.lots(20, 1) >= 0 && x.lots(20, 1) >= 0 ? 1 : 0, 1);
    }

    static void promise11DeckAnewFromTheSameText() {
        CardPasses x = Edge.busy();
        Check.due("deck", x.deck(0), 6);
        Check.lies("as they come", x, 0, 1, 2, 3, 4, 5);
        Check.told("the figure that was punched", x, x.card(2, 1), 8);
    }

    static void promise11DeckLeavesRowsTextsAsked() {
        CardPasses x = Edge.busy();
        long upper = x.upper();
        x.deck(0);
        Check.due("asked", x.asked(), Edge.MAX);
        Check.due("upper", x.upper(), upper);
        Check.due("rows", x.count(7), 3);
        Check.due("texts", x.count(8), 3);
        Check.due("finding", x.finding(), Edge.BEYOND);
    }

    static void promise11DeckIsNoLongerItsText() {
        CardPasses x = Edge.fresh();
        x.put(0, 1, '9');
        Check.told("figure", x, x.card(0, 1), 5);
        x.turn();
        x.undo(0);
        Check.told("figure undone", x, x.card(0, 1), 5);
    }

    static void promise11DeckOfAFault() {
        Edge.refused("fault", Edge::busy, STATE, x -> x.deck(1));
        Edge.refused("empty", Edge::busy, STATE, x -> x.deck(2));
        Edge.refused("blanks", Edge::full, STATE, x -> x.deck(0));
        Edge.refused("fault without cards", Edge::noCards, STATE, x -> x.deck(1));
    }

    static void promise11DeckStateBehindNothing() {
        Edge.found("missing", Edge::busy, NOTHING, x -> x.deck(3));
        Edge.found("missing without cards", Edge::noCards, NOTHING, x -> x.deck(0));
    }

    static void promise11DeckBad() {
        Edge.badAround("text", Edge::busy, 0, 3, (x, t) -> x.deck(t));
    }

    // ---- 12 card

    static void promise12CardNumbers() {
        Edge.badCards("card", (x, i) -> x.card(i, 0));
        CardPasses x = Edge.two();
        Check.told("first", x, x.card(0, 1), 1);
        Check.told("last of two", x, x.card(1, 1), 4);
        CardPasses y = Edge.fresh();
        Check.told("last of six", y, y.card(5, 1), 9);
    }

    static void promise12CardWhats() {
        Edge.badAround("what", Edge::busy, 0, 7, (x, what) -> x.card(0, what));
        int[] due = {2, 1, 3, 0, 0, 1, 3, 0};
        CardPasses x = Edge.busy();
        for (int what = 0; what <= 7; what++) {
            Check.told("what " + what, x, x.card(2, what), due[what]);
        }
        Edge.aside("card", Edge::busy, 1, y -> y.card(5, 7));
    }

    static void promise12CardPlaceFromTopToBottom() {
        CardPasses x = Edge.busy();
        Check.lies("busy", x, 2, 0, 1, 5, 4, 3);
    }

    static void promise12CardReadsNow() {
        CardPasses x = Check.deckOf("w987t100");
        for (int passes = 0; passes <= 40; passes++) {
            Check.told("worn", x, x.card(0, 5), Math.max(0, 9 - passes / 4));
            Check.told("torn", x, x.card(1, 5), Math.max(0, 1 - passes / 4));
            Check.told("thrown out", x, x.card(1, 6), 10);
            x.pass(1);
        }
    }

    // ---- 13 mark

    static void promise13MarkNumbers() {
        Edge.badCards("mark", (x, i) -> x.mark(i, 1));
        Edge.badAround("kind", Edge::busy, 1, 5, (x, kind) -> x.mark(0, kind));
    }

    static void promise13MarkBadAlsoKind0() {
        for (int i = 0; i < 6; i++) {
            int card = i;
            Edge.refused("kind 0", Edge::busy, BAD, x -> x.mark(card, 0));
        }
    }

    static void promise13MarkUnlike() {
        boolean[][] is = {{false, false, false, false, false}, {true, false, false, false, false},
            {false, true, false, false, false}, {false, false, true, false, false},
            {false, true, false, true, false}, {false, false, true, false, true}};
        for (int i = 0; i < 6; i++) {
            for (int kind = 1; kind <= 5; kind++) {
                if (!is[i][kind - 1]) {
                    int card = i;
                    int other = kind;
                    Edge.found("card " + i + " as " + kind, Edge::fresh, UNLIKE, x -> x.mark(card, other));
                } else {
                    Check.due("card " + i + " as " + kind, Edge.fresh().mark(i, kind) >= 0 ? 1 : 0, 1);
                }
            }
        }
    }

    private static void mark(String card, int kind, int due) {
        CardPasses x = Check.deckOf(card + "c000");
        Check.due("mark of " + card, x.mark(0, kind), due);
        Check.due("asked", x.asked(), 0);
    }

    static void promise13MarkCut() {
        mark("x111", 1, 0);
        mark("x121", 1, 0);
        mark("x112", 1, 2);
        mark("x211", 1, 2);
    }

    static void promise13MarkWornNineAtMost() {
        CardPasses x = Check.deckOf("w100t011");
        for (int passes = 0; passes <= 40; passes++) {
            Check.due("worn behind " + passes, x.mark(0, 2), Math.min(9, passes / 4));
            Check.due("torn behind " + passes, x.mark(1, 2), Math.min(9, passes / 4));
            x.pass(2);
        }
    }

    static void promise13MarkDouble() {
        mark("d111", 3, 0);
        mark("d112", 3, 1);
        mark("d123", 3, 2);
        mark("d321", 3, 1);
        mark("d090", 3, 1);
    }

    static void promise13MarkDoubleOfAMaster() {
        mark("m111", 3, 0);
        mark("m123", 3, 2);
        mark("m128", 3, 2);
        // A master reads 0 where a double reads 9.
        mark("m129", 3, 1);
        mark("m090", 3, 0);
        mark("m999", 3, 0);
    }

    static void promise13MarkTorn() {
        mark("t111", 4, 0);
        mark("t101", 4, 1);
        mark("t001", 4, 2);
        mark("t000", 4, 3);
        CardPasses x = Check.deckOf("t110c000");
        for (int k = 0; k < 40; k++) {
            x.pass(0);
        }
        Check.due("worn down is not thrown out", x.mark(0, 4), 1);
    }

    static void promise13MarkMasterFromTopToBottom() {
        CardPasses x = Edge.fresh();
        Check.due("last", x.mark(5, 5), 5);
        for (int k = 4; k >= 0; k--) {
            x.lift(1);
            Check.due("ahead", x.mark(5, 5), k);
        }
        Edge.silent("mark", Edge::busy, 3, y -> y.mark(5, 5));
    }
}
