import java.lang.reflect.Field;
import java.lang.reflect.Method;
import java.lang.reflect.Modifier;
import java.nio.file.Files;
import java.nio.file.Path;
import java.util.Arrays;
import java.util.Set;
import java.util.TreeSet;
import java.util.regex.Matcher;
import java.util.regex.Pattern;

/** The rules of ../shared/LANGUAGE.md that can be seen from the program's text and its face. */
public final class LanguageTest {
    private static final String SOURCE = "src/main/java/DredgeWays.java";
    private static final String[] METHODS = {"board", "lay", "rule", "tide", "hold", "spot", "post", "best", "trip",
        "hours", "sound", "lose", "join", "between", "sounded", "cell", "about", "broken", "count"};
    private static final Checks checks = new Checks("LanguageTest");

    public static void main(String[] args) throws Exception {
        String text = Files.readString(Path.of(SOURCE));
        String code = text.replaceAll("(?s)/\\*.*?\\*/", "").replaceAll("//[^\n]*", "");
        words(code);
        face();
        classesInside(code);
        methodLengths(code);
        machineNeverThrows(code);
        madeInConstructorsAlone(code);
        checks.end();
    }

    private static void words(String code) {
        String[] none = {"throw", "throws", "try", "catch", "synchronized", "assert", "import", "package", "System",
            "Object", "instanceof", "hashCode", "toString", "Random", "Thread", "native", "volatile", "transient"};
        for (String word : none) due("the word " + word, found("\\b" + word + "\\b", code), 0);
        due("lambdas", found("->", code), 0);
        due("method references", found("::", code), 0);
        due("names ending in Exact", found("Exact\\b", code), 0);
        due("signs beyond 127", found("[^\\x00-\\x7f]", code), 0);
        due("static fields that are not final", found("static (?!final|boolean \\w+\\(|int \\w+\\()", code), 0);
        due("while loops without a counter", found("\\bwhile\\b", code), 0);
    }

    private static int found(String pattern, String text) {
        int times = 0;
        for (Matcher m = Pattern.compile(pattern).matcher(text); m.find(); ) times++;
        return times;
    }

    private static void face() {
        Set<String> open = new TreeSet<>();
        for (Method m : DredgeWays.class.getDeclaredMethods()) {
            if (Modifier.isPrivate(m.getModifiers())) continue;
            due(m.getName() + " is public", Modifier.isPublic(m.getModifiers()) ? 1 : 0, 1);
            open.add(m.getName());
        }
        due("the face's methods", open.equals(new TreeSet<>(Arrays.asList(METHODS))) ? 1 : 0, 1);
        due("constructors", DredgeWays.class.getDeclaredConstructors().length, 1);
        for (Field f : DredgeWays.class.getDeclaredFields()) {
            boolean constant = Set.of("BAD", "NO", "FULL", "NONE").contains(f.getName());
            due(f.getName() + " open", Modifier.isPrivate(f.getModifiers()) ? 0 : 1, constant ? 1 : 0);
        }
    }

    private static void classesInside(String code) {
        Class<?>[] inside = DredgeWays.class.getDeclaredClasses();
        due("at most twelve classes", inside.length < 12 ? 1 : 0, 1);
        due("no local or anonymous class", found("\\bclass \\w+", code), inside.length + 1);
        Set<String> open = Set.of(METHODS);
        for (Class<?> c : inside) {
            due(c + " is static", Modifier.isStatic(c.getModifiers()) ? 1 : 0, 1);
            for (Method m : c.getDeclaredMethods()) due(c + "." + m.getName() + " bears a public name", open.contains(m.getName()) ? 1 : 0, 0);
        }
    }

    private static void methodLengths(String code) {
        String[] lines = code.split("\n");
        int begun = 0;
        for (int i = 0; i < lines.length; i++) {
            if (lines[i].matches(" {4}( {4})?[\\w ]+\\(.*\\{")) begun = i;
            if (lines[i].matches(" {4}( {4})?\\}")) due("line " + (i + 1) + ": a method of sixty lines at most", i - begun <= 60 || begun == 0 ? 1 : 0, 1);
            if (lines[i].contains("class ")) begun = 0;
        }
    }

    /** Arrays are used in Numbers alone, which looks at each index; divisors are constants or looked at in their line. */
    private static void machineNeverThrows(String code) {
        String numbers = "(?s)private static final class Numbers \\{.*?\n    \\}\n";
        due("one class of arrays", found(numbers, code), 1);
        due("arrays elsewhere", found("\\[", code.replaceAll(numbers, "")), 0);
        due("divisors that may be 0", found("[/%]=?+ *+(?![1-9]|[A-Z_]+\\b|neighbours\\b)", code), 0);
        due("divided by neighbours", found("[/%] *neighbours", code), found("neighbours > 0 && [^;]*[/%] neighbours", code));
        due("casts", found("\\((int|long|short|byte|char|[A-Z]\\w*)\\) *[\\w(]", code), 0);
        due("the word null", found("\\bnull\\b", code), 0);
    }

    /** So that no run of calls can make more than its room holds. */
    private static void madeInConstructorsAlone(String code) {
        int inFields = found("(?m)^ {4}( {4})?(private )?final \\w+ \\w+ = new \\w+\\(", code);
        due("what the constructor of Numbers makes", found("items = new int\\[", code), 1);
        due("objects made by calls", found("\\bnew\\b", code) - inFields - 1, 0);
    }

    private static void due(String what, long got, long want) {
        checks.due(what, got, want);
    }
}
