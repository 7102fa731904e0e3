import java.lang.reflect.Constructor;
import java.lang.reflect.Field;
import java.lang.reflect.Method;
import java.lang.reflect.Modifier;
import java.nio.file.Files;
import java.nio.file.Path;
import java.util.Set;
import java.util.TreeSet;
import java.util.regex.Matcher;
import java.util.regex.Pattern;

/** What of ../shared/LANGUAGE.md and of the document's face can be seen from outside. */
public final class LanguageTest {
    private static final String FACE = "row2 lay3 at2 tear1 copy5 mean1 text2 put3 fault1 deck1 card2 mark2 pass1"
            + " turn0 lift1 punch3 undo1 keep1 on1 pocket3 run2 fewest3 order2 columns1 kinds2 figures3 next2"
            + " sets2 sure2 duel3 odds3 mid3 lots2 asked0 upper0 lower0 count1 finding0 findings1 digest0";
    private static final String[] FORBIDDEN = {"throw", "throws", "try", "catch", "synchronized", "assert", "import",
        "package", "protected", "System", "Thread", "Object", "Random", "hashCode", "toString", "var", "->", "::"};

    private LanguageTest() {
    }

    public static void main(String[] args) throws Exception {
        face();
        constants();
        nested();
        source();
        Check.end("LanguageTest");
    }

    private static void face() {
        Set<String> due = new TreeSet<>(Set.of(FACE.split(" ")));
        Set<String> names = new TreeSet<>();
        for (Method m : CardPasses.class.getDeclaredMethods()) {
            if (Modifier.isPublic(m.getModifiers())) {
                boolean known = due.remove(m.getName() + m.getParameterCount());
                Check.due("public " + m.getName() + " is of the face", known ? 1 : 0, 1);
                boolean isLong = Set.of("upper", "lower", "digest").contains(m.getName());
                Check.due(m.getName() + " answers as told", m.getReturnType() == (isLong ? long.class : int.class) ? 1 : 0, 1);
                names.add(m.getName());
            } else {
                Check.due(m.getName() + " is private", Modifier.isPrivate(m.getModifiers()) ? 1 : 0, 1);
            }
        }
        Check.due("missing " + due, due.size(), 0);
        for (Method m : CardPasses.class.getDeclaredMethods()) {
            boolean hidden = Modifier.isPrivate(m.getModifiers());
            Check.due("no private " + m.getName(), hidden && names.contains(m.getName()) ? 1 : 0, 0);
        }
        Check.due("final", Modifier.isFinal(CardPasses.class.getModifiers()) ? 1 : 0, 1);
        Constructor<?>[] made = CardPasses.class.getDeclaredConstructors();
        Check.due("constructors", made.length, 1);
        Check.due("constructor's parameters", made[0].getParameterCount(), 0);
    }

    private static void constants() throws Exception {
        Set<String> due = new TreeSet<>(Set.of("BAD-1", "FULL-2", "FINDING-3", "STATE-4", "SPENT-6", "NONE-9"));
        for (Field f : CardPasses.class.getDeclaredFields()) {
            if (Modifier.isPublic(f.getModifiers())) {
                Check.due("public " + f.getName(), due.remove(f.getName() + f.getInt(null)) ? 1 : 0, 1);
            } else {
                Check.due(f.getName() + " is private", Modifier.isPrivate(f.getModifiers()) ? 1 : 0, 1);
            }
            boolean loose = Modifier.isStatic(f.getModifiers()) && !Modifier.isFinal(f.getModifiers());
            Check.due("static " + f.getName() + " is final", loose ? 1 : 0, 0);
        }
        Check.due("missing " + due, due.size(), 0);
    }

    private static void nested() {
        Class<?>[] inside = CardPasses.class.getDeclaredClasses();
        Check.due("at most twelve classes", inside.length < 12 ? 1 : 0, 1);
        for (Class<?> c : inside) {
            Check.due(c.getName() + " is static", Modifier.isStatic(c.getModifiers()) ? 1 : 0, 1);
            Check.due(c.getName() + " fields", c.getDeclaredFields().length <= 20 ? 1 : 0, 1);
            for (Method m : c.getDeclaredMethods()) {
                Check.due(c.getName() + "." + m.getName() + " parameters", m.getParameterCount() <= 7 ? 1 : 0, 1);
                Check.due(c.getName() + "." + m.getName() + " has a name of its own",
                        FACE.matches(".*\\b" + m.getName() + "\\d.*") ? 1 : 0, 0);
            }
        }
    }

    private static void source() throws Exception {
        String text = Files.readString(Path.of("src/main/java/CardPasses.java"));
        String code = text.replaceAll("(?s)/\\*.*?\\*/", "").replaceAll("//[^\n]*", "");
        for (String word : FORBIDDEN) {
            boolean letters = Character.isLetter(word.charAt(0));
            String pattern = letters ? "\\b" + word + "\\b" : Pattern.quote(word);
            Check.due("'" + word + "' in the code", Pattern.compile(pattern).matcher(code).find() ? 1 : 0, 0);
        }
        Matcher dots = Pattern.compile("\\b(Math|Integer|Long|Arrays|String)\\.(\\w+)").matcher(code);
        while (dots.find()) {
            boolean known = Set.of("Math.max", "Math.min").contains(dots.group());
            Check.due(dots.group() + " is of the library", known ? 1 : 0, 1);
        }
        int longest = 0;
        int length = 0;
        for (String line : code.split("\n")) {
            boolean begins = line.matches(" +(public|private)[^=;]*\\) \\{");
            length = begins ? 1 : length + 1;
            if (line.matches(" {4}( {4})?\\}")) {
                longest = Math.max(longest, length);
            }
        }
        Check.due("methods of sixty lines at most", longest > 60 ? longest : 0, 0);
    }
}
