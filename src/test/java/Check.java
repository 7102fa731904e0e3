/** What the tests share: counting answers that are not as due, and laying decks, rows and texts. */
final class Check {
    private static int wrong = 0;
    private static int asked = 0;
    private static String test = "";

    private Check() {
    }

    /** The test whose name goes ahead of what is told from now on. */
    static void begin(String name) {
        test = name + ": ";
    }

    static void due(String call, long got, long want) {
        asked++;
        if (got != want) {
            wrong++;
            System.out.println(test + call + " answered " + got + ", due is " + want);
        }
    }

    static void finding(String call, CardPasses x, int got, int want) {
        due(call, got, CardPasses.FINDING);
        due(call + " finding", x.finding(), want);
    }

    static void told(String call, CardPasses x, int got, int want) {
        due(call, got, 1);
        due(call + " asked", x.asked(), want);
    }

    static void parts(String call, CardPasses x, int got, long upper, long lower) {
        due(call, got, 1);
        due(call + " upper", x.upper(), upper);
        due(call + " lower", x.lower(), lower);
    }

    static void write(CardPasses x, int t, String signs) {
        x.text(t, signs.length());
        for (int i = 0; i < signs.length(); i++) {
            x.put(t, i, signs.charAt(i));
        }
    }

    static CardPasses deckOf(String signs) {
        CardPasses x = new CardPasses();
        write(x, 0, signs);
        x.deck(0);
        return x;
    }

    static void fill(CardPasses x, int r, int... values) {
        x.row(r, values.length);
        for (int i = 0; i < values.length; i++) {
            x.lay(r, i, values[i]);
        }
    }

    static void row(String call, CardPasses x, int r, int... values) {
        for (int i = 0; i < values.length; i++) {
            told(call + " place " + i, x, x.at(r, i), values[i]);
        }
        due(call + " has no more places", x.at(r, values.length), CardPasses.FINDING);
        due(call + " is there", x.finding(), 2);
    }

    /** How the deck lies, from the top. */
    static void lies(String call, CardPasses x, int... cards) {
        for (int place = 0; place < cards.length; place++) {
            told(call + " card " + cards[place], x, x.card(cards[place], 4), place);
        }
    }

    static void end(String name) {
        System.out.println(name + ": " + asked + " answers, " + wrong + " not as due");
        if (wrong != 0) {
            System.exit(1);
        }
    }
}
