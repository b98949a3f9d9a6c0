import java.io.IOException;
import java.lang.reflect.Field;
import java.lang.reflect.Method;
import java.lang.reflect.Modifier;
import java.nio.file.Files;
import java.nio.file.Path;
import java.util.regex.Matcher;
import java.util.regex.Pattern;

/** What of ../shared/LANGUAGE.md can be seen in the text of the class and in its members. */
public final class LanguageTest {
    private static final Path SOURCE = Path.of("src", "main", "java", "PermitRules.java");

    /** What the class has no need of; each a rule's number and an expression. */
    private static final String[][] FORBIDDEN = {
        {"a package or import", "\\b(package|import)\\b"},
        {"1: protected", "\\bprotected\\b"},
        {"1: a private method with a public one's name",
            "private [\\w\\[\\] ]*\\b(say|trim|read|fact|forget|run|rule|told|broken|suggest|count)\\("},
        {"2: a lambda or a method reference", "->|::"},
        {"4: the library", "\\b(System|Math|Long|Integer|Arrays|List|ArrayList|String|StringBuilder|Object)\\b"},
        {"5: a static block", "\\bstatic\\s*\\{"},
        {"5: a static field that is not final", "(?m)^\\s*(private |public )?static (?!final\\b)[\\w\\[\\]]+ \\w+( =|;)"},
        {"6: try, catch, finally", "\\b(try|catch|finally)\\b"},
        {"6: synchronized, assert, instanceof", "\\b(synchronized|assert|instanceof)\\b"},
        {"6: another exception", "throw (?!new Illegal(Argument|State)Exception\\(\"[^\"]*\"\\);)"},
        {"7: null", "\\bnull\\b"},
        {"9: a loop without a bound", "while \\(true\\)|for \\(;;\\)"}};

    public static void main(String[] args) throws IOException {
        Check check = Check.begin();
        String code = Files.readString(SOURCE).replaceAll("(?s)/\\*.*?\\*/", "").replaceAll("//[^\\n]*", "");
        for (String[] rule : FORBIDDEN) {
            Matcher found = Pattern.compile(rule[1]).matcher(code);
            check.due(rule[0], found.find() ? 1 : 0, 0);
        }
        Matcher classes = Pattern.compile("\\bclass \\w+").matcher(code);
        check.due("11: at most twelve classes", classes.results().count() <= 12 ? 1 : 0, 1);
        check.due("11: the longest method has at most sixty lines", longestMethod(code) <= 60 ? 1 : 0, 1);
        members(check, PermitRules.class);
        for (Class<?> inside : PermitRules.class.getDeclaredClasses()) {
            int modifiers = inside.getModifiers();
            boolean fits = Modifier.isStatic(modifiers) && !Modifier.isPublic(modifiers) && !Modifier.isProtected(modifiers);
            check.due("1: " + inside + " is static, and none sees it from without", fits ? 1 : 0, 1);
            members(check, inside);
        }
        check.end();
    }

    private static void members(Check check, Class<?> type) {
        int fields = 0;
        for (Field field : type.getDeclaredFields()) {
            boolean constant = Modifier.isStatic(field.getModifiers());
            fields += constant ? 0 : 1;
            boolean fits = !constant || Modifier.isFinal(field.getModifiers()) && field.getType().isPrimitive();
            check.due("5: " + field + " is no state that all share", fits ? 1 : 0, 1);
        }
        check.due("11: " + type + " has some twenty fields at most", fields <= 20 ? 1 : 0, 1);
        for (Method method : type.getDeclaredMethods()) {
            check.due("11: " + method + " takes seven at most", method.getParameterCount() <= 7 ? 1 : 0, 1);
        }
    }

    private static int longestMethod(String code) {
        int longest = 0;
        int lines = 0;
        for (String line : code.split("\n")) {
            boolean head = line.matches("\\s+.*\\) (throws [\\w, ]+ )?\\{") && !line.matches("\\s+(\\} )?(if|for|while|switch|else)\\b.*");
            lines = head ? 1 : lines + 1;
            if (line.matches(" {4}( {4})?\\}")) {
                longest = Math.max(longest, lines);
            }
        }
        return longest;
    }
}
