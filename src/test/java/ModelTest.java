import java.lang.reflect.Method;
import java.util.Arrays;
import java.util.Comparator;
import java.util.Random;

/** Asks CardPasses and the model the same at random, call by call, with wild numbers among them. */
public final class ModelTest {
    private static final int RUNS = 1500, CALLS = 300;
    private static final int[] WILD = {Integer.MIN_VALUE, Integer.MAX_VALUE, -1, -2, 6, 7, 10, 11, 12, 13, 16,
        18, 40, 41, 54, 55, 60, 61, 1000, 1 << 16, -(1 << 30)};

    private final Random random;
    private CardPasses own;
    private Model model;
    private int wrong = 0;

    private ModelTest(long seed) {
        random = new Random(seed);
    }

    public static void main(String[] args) throws Exception {
        Method[] methods = CardPasses.class.getDeclaredMethods();
        methods = Arrays.stream(methods).filter(m -> java.lang.reflect.Modifier.isPublic(m.getModifiers()))
                .sorted(Comparator.comparing(Method::getName)).toArray(Method[]::new);
        int wrong = 0;
        for (int run = 0; run < RUNS && wrong == 0; run++) {
            ModelTest test = new ModelTest(run);
            test.run(methods, run);
            wrong += test.wrong;
        }
        System.out.println("ModelTest: " + RUNS + " runs, " + wrong + " not as the model");
        if (wrong != 0) {
            System.exit(1);
        }
    }

    private void run(Method[] methods, int run) throws Exception {
        own = new CardPasses();
        model = new Model();
        for (int call = 0; call < CALLS && wrong == 0; call++) {
            int choice = random.nextInt(40);
            if (choice == 0 || call == 0 && run % 8 != 0) {
                layDeck(run);
            } else if (choice < 6) {
                layRow(run);
            } else {
                Method m = methods[random.nextInt(methods.length)];
                // A deck or a run of undoing ends what has come about: less often than the rest.
                boolean ends = m.getName().equals("deck") || m.getName().equals("undo");
                if (!ends || random.nextInt(6) == 0) {
                    same(run, m.getName(), arguments(m));
                }
            }
        }
    }

    private Object[] arguments(Method m) {
        Object[] arguments = new Object[m.getParameterCount()];
        for (int k = 0; k < arguments.length; k++) {
            arguments[k] = number(m.getName());
        }
        return arguments;
    }

    private int number(String name) {
        int choice = random.nextInt(30);
        if (choice == 0) {
            return WILD[random.nextInt(WILD.length)];
        }
        if (name.equals("undo") && choice < 15) {
            return own.count(2) - 2 + random.nextInt(4);
        }
        if (name.equals("sets") || name.equals("sure")) {
            return choice < 15 ? random.nextInt(3) : random.nextInt(40);
        }
        if (name.equals("lots")) {
            return choice < 20 ? 1 + random.nextInt(8) : random.nextInt();
        }
        if (name.equals("odds") || name.equals("mid")) {
            return choice < 20 ? random.nextInt(3) : random.nextInt(13);
        }
        return choice < 20 ? random.nextInt(3) : random.nextInt(7);
    }

    private void layDeck(int run) throws Exception {
        StringBuilder signs = new StringBuilder();
        int cards = random.nextInt(12) == 0 ? random.nextInt(9) : 2 + random.nextInt(5);
        int figures = random.nextInt(3) == 0 ? 10 : 1 + random.nextInt(4);
        for (int i = 0; i < cards; i++) {
            signs.append(" ".repeat(random.nextInt(5) / 3)).append("cxwdtm".charAt(random.nextInt(6)));
            for (int c = 0; c < 3; c++) {
                signs.append((char) ('0' + random.nextInt(figures)));
            }
        }
        signs.append(" ".repeat(random.nextInt(3)));
        int t = random.nextInt(4);
        same(run, "text", t, signs.length());
        for (int i = 0; i < signs.length(); i++) {
            boolean astray = random.nextInt(120) == 0;
            same(run, "put", t, i, astray ? random.nextInt(256) : (int) signs.charAt(i));
        }
        same(run, "fault", t);
        same(run, "deck", t);
    }

    /** A row that some call is likely to take: columns, pairs of pockets, or cards. */
    private void layRow(int run) throws Exception {
        int r = random.nextInt(6);
        int what = random.nextInt(3);
        int cards = Math.max(1, own.count(0));
        int size = what == 0 ? random.nextInt(12) : what == 1 ? 2 * random.nextInt(3) : cards;
        Integer[] values = new Integer[size];
        int card = own.count(0) == 0 ? 0 : random.nextInt(cards);
        for (int k = 0; k < size; k++) {
            if (what == 0) {
                values[k] = random.nextInt(3);
            } else if (what == 1) {
                boolean pocket = k % 2 == 1;
                int reads = pocket ? own.pocket(card, values[k - 1], own.count(1)) : 0;
                values[k] = !pocket ? random.nextInt(3)
                        : reads >= 0 && random.nextInt(6) > 0 ? reads : random.nextInt(11);
            } else {
                values[k] = k;
            }
        }
        if (what == 2) {
            java.util.Collections.shuffle(Arrays.asList(values), random);
        }
        same(run, "row", r, size);
        for (int k = 0; k < size; k++) {
            same(run, "lay", r, k, values[k]);
        }
        if (what == 0) {
            int to = random.nextInt(6);
            same(run, "run", r, to);
            same(run, "columns", to);
        } else if (what == 1) {
            same(run, "kinds", card, r);
            same(run, "next", card, r);
            same(run, "figures", card, random.nextInt(3), r);
        } else {
            same(run, "columns", r);
        }
    }

    private void same(int run, String name, Object... arguments) throws Exception {
        if (wrong > 0) {
            return;
        }
        Class<?>[] types = new Class<?>[arguments.length];
        Arrays.fill(types, int.class);
        long got = ((Number) CardPasses.class.getMethod(name, types).invoke(own, arguments)).longValue();
        long want = ((Number) Model.class.getMethod(name, types).invoke(model, arguments)).longValue();
        String call = "run " + run + ": " + name + Arrays.toString(arguments);
        compare(call, got, want);
        compare(call + " asked", own.asked(), model.asked());
        compare(call + " upper", own.upper(), model.upper());
        compare(call + " lower", own.lower(), model.lower());
        compare(call + " finding", own.finding(), model.finding());
        for (int f = 1; f <= 5; f++) {
            compare(call + " findings " + f, own.findings(f), model.findings(f));
        }
        compare(call + " digest", own.digest(), model.digest());
    }

    private void compare(String what, long got, long want) {
        if (got != want) {
            wrong++;
            System.out.println(what + " answered " + got + ", the model " + want);
        }
    }
}
