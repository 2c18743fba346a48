import java.io.IOException;
import java.nio.file.Files;
import java.nio.file.Path;
import java.util.Set;
import java.util.regex.Matcher;
import java.util.regex.Pattern;

/** What LANGUAGE.md rules out and a look at the text can find. It is run in the project's folder, as .ci/run does. */
public final class LanguageTest {
    private static final String[] RULED_OUT = {
        "\\bthrow\\b", "\\bthrows\\b", "\\btry\\b", "\\bcatch\\b", "\\bsynchronized\\b", "\\bassert\\b", "->", "::",
        "\\bpackage\\b", "\\bstatic\\s*\\{", "\"", "\\w+Exact\\b", "\\bSystem\\.(?!arraycopy)", "\\bvolatile\\b",
        "\\b(equals|hashCode|toString)\\s*\\(", "\\bObject\\b", "@",
    };
    private static final Set<String> LIBRARY = Set.of("Math.max", "Math.min");

    public static void main(String[] args) throws IOException {
        String source = Files.readString(Path.of("src/main/java/ContentStore.java"));
        String code = source.replaceAll("(?s)/\\*.*?\\*/", " ").replaceAll("//[^\n]*", " ");
        for (String pattern : RULED_OUT) {
            Check.due(pattern + " stands in the code", Pattern.compile(pattern).matcher(code).find(), false);
        }
        imports(code);
        library(code);
        staticFields(code);
        Check.finish();
    }

    private static void imports(String code) {
        Matcher each = Pattern.compile("\\bimport\\s+([^;]+);").matcher(code);
        while (each.find()) {
            Check.due("import of " + each.group(1), each.group(1).equals("java.util.ArrayList"), true);
        }
    }

    private static void library(String code) {
        Matcher each = Pattern.compile("\\b(Math|Integer|Long|Arrays|String|System)\\.\\w+").matcher(code);
        while (each.find()) {
            Check.due("use of " + each.group(), LIBRARY.contains(each.group()), true);
        }
    }

    private static void staticFields(String code) {
        Matcher each = Pattern.compile("\\bstatic\\s+(?!final)[\\w\\[\\]]+\\s+\\w+\\s*[=;]").matcher(code);
        Check.due("a static field that isn't final", each.find(), false);
    }
}
