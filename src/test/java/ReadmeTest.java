import java.io.ByteArrayOutputStream;
import java.io.IOException;
import java.io.PrintStream;
import java.lang.reflect.Method;
import java.nio.charset.StandardCharsets;
import java.nio.file.Files;
import java.nio.file.Path;

/** What README.md shows of the class's use is a program that stands here, and what that prints. */
public final class ReadmeTest {
    public static void main(String[] args) throws IOException {
        Check check = Check.begin();
        String readme = Files.readString(Path.of("README.md"));
        String example = Files.readString(Path.of("src", "test", "java", "Example.java"));
        check.due("the program is Example", block(readme, "java").equals(example) ? 1 : 0, 1);
        String printed = printed();
        check.due("it prints\n" + printed, block(readme, "text").equals(printed) ? 1 : 0, 1);
        check.due("all calls are told", untoldCalls(readme), 0);
        check.end();
    }

    /** The first block of a kind, without its fences. */
    private static String block(String readme, String kind) {
        String fence = "```" + kind + "\n";
        int from = readme.indexOf(fence);
        int behind = readme.indexOf("```", from + fence.length());
        return from < 0 || behind < 0 ? "" : readme.substring(from + fence.length(), behind);
    }

    private static String printed() {
        PrintStream own = System.out;
        ByteArrayOutputStream bytes = new ByteArrayOutputStream();
        System.setOut(new PrintStream(bytes, true, StandardCharsets.US_ASCII));
        Example.main(new String[0]);
        System.setOut(own);
        return bytes.toString(StandardCharsets.US_ASCII).replace(System.lineSeparator(), "\n");
    }

    private static int untoldCalls(String readme) {
        int untold = 0;
        for (Method method : PermitRules.class.getMethods()) {
            boolean own = method.getDeclaringClass() == PermitRules.class;
            if (own && !readme.contains("| `" + method.getName() + "(")) {
                untold++;
            }
        }
        return untold;
    }
}
