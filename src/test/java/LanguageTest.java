import java.lang.reflect.Field;
import java.lang.reflect.Modifier;
import java.nio.file.Files;
import java.nio.file.Path;
import java.util.HashSet;
import java.util.Set;
import java.util.regex.Matcher;
import java.util.regex.Pattern;

/** The rules of LANGUAGE.md that can be seen by looking at the text of the class. Run where the project stands. */
public final class LanguageTest {
    private static final Pattern METHOD = Pattern.compile(
            "(?m)^( +)(public |private )(static )?[\\w\\[\\]]+ (\\w+)\\(([^)]*)\\) \\{$");

    public static void main(String[] args) throws Exception {
        Check check = new Check();
        String whole = Files.readString(Path.of("src/main/java/MoonLodger.java"));
        check.due("signs are 1 to 127", whole.chars().allMatch(c -> c > 0 && c < 128), true);
        String code = whole.replaceAll("(?s)/\\*.*?\\*/", "").replaceAll("//[^\n]*", "").replaceAll("\"[^\"]*\"", "\"\"");
        for (String word : new String[] {"throw", "throws", "try", "catch", "finally", "synchronized", "assert", "package",
            "protected", "volatile", "native", "import", "float", "double", "Object", "System.out", "equals", "hashCode",
            "toString", "instanceof", "random", "Thread"}) {
            check.due("uses of " + word, count(code, "\\b" + word.replace(".", "\\.") + "\\b"), 0);
        }
        check.due("lambdas and references", count(code, "->|::"), 0);
        check.due("texts joined by +", count(code, "\"\\s*\\+|\\+\\s*\""), 0);
        check.due("static fields that aren't final", count(code, "(?m)^ *private static (?!final )[\\w\\[\\]]+ \\w+ *[=;]"), 0);
        check.due("static blocks", count(code, "static \\{"), 0);
        check.due("inner classes", count(code, "(?m)^ ++(?!private static final class).*\\bclass\\b"), 0);
        check.due("classes", count(code, "\\bclass\\b") <= 12, true);
        check.due("members that can be seen", count(code, "(?m)^    (?!private|public|\\}|\\s)\\S"), 0);
        library(check, code);
        fields(check);
        methods(check, code);
        check.end("LanguageTest");
    }

    /** Rule 4: of the library only what it lists, and of that nothing which could throw. */
    private static void library(Check check, String code) {
        Set<String> allowed = Set.of("Math.max", "Math.min", "Integer.bitCount", "System.arraycopy", "WORDS.length",
                "WORDS.charAt", "SIGNS.indexOf");
        Matcher m = Pattern.compile("\\b[A-Z]\\w*\\.[a-z]\\w*").matcher(code);
        while (m.find()) {
            check.due("library: " + m.group(), allowed.contains(m.group()), true);
        }
        check.due("arrays of two dimensions", count(code, "\\]\\s*\\["), 0);
    }

    /** Rule 11: some twenty fields a class beside its constants. */
    private static void fields(Check check) {
        Set<Class<?>> classes = new HashSet<>(Set.of(MoonLodger.class.getDeclaredClasses()));
        classes.add(MoonLodger.class);
        for (Class<?> type : classes) {
            int own = 0;
            for (Field field : type.getDeclaredFields()) {
                boolean constant = Modifier.isStatic(field.getModifiers());
                own += constant ? 0 : 1;
                check.due("static " + field.getName() + " is final", !constant || Modifier.isFinal(field.getModifiers()), true);
            }
            check.due("fields of " + type.getName(), own <= 20, true);
        }
    }

    private static void methods(Check check, String code) {
        Set<String> open = new HashSet<>();
        Set<String> hidden = new HashSet<>();
        Matcher m = METHOD.matcher(code);
        int found = 0;
        while (m.find()) {
            found++;
            (m.group(2).equals("public ") ? open : hidden).add(m.group(4));
            check.due("parameters of " + m.group(4), m.group(5).split(",").length <= 7, true);
            int end = code.indexOf("\n" + m.group(1) + "}", m.end());
            check.due("lines of " + m.group(4), count(code.substring(m.start(), end), "\n") <= 60, true);
        }
        check.due("public methods", open.size(), 46);
        check.due("methods were found", found > 100, true);
        hidden.retainAll(open);
        check.due("private methods that bear a public name " + hidden, hidden.size(), 0);
    }

    private static int count(String text, String pattern) {
        Matcher m = Pattern.compile(pattern).matcher(text);
        int found = 0;
        while (m.find()) {
            found++;
        }
        return found;
    }
}
