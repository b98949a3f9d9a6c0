import java.lang.reflect.Constructor;
import java.lang.reflect.Field;
import java.lang.reflect.Method;
import java.lang.reflect.Modifier;
import java.util.Arrays;
import java.util.TreeSet;

/** The class has the document's face, and no member besides that others could see. */
public final class FaceTest {
    private static final String[] FACE = {
        "public PermitRules()",
        "public static final int PermitRules.NONE",
        "public static final long PermitRules.NO",
        "public int PermitRules.say(long) throws java.lang.IllegalArgumentException,java.lang.IllegalStateException",
        "public int PermitRules.trim(int) throws java.lang.IllegalArgumentException",
        "public int PermitRules.read()",
        "public long PermitRules.fact(long,int) throws java.lang.IllegalArgumentException,java.lang.IllegalStateException",
        "public long PermitRules.forget(long) throws java.lang.IllegalArgumentException",
        "public int PermitRules.run(int) throws java.lang.IllegalArgumentException",
        "public int PermitRules.rule(long) throws java.lang.IllegalArgumentException",
        "public long PermitRules.told(int,int) throws java.lang.IllegalArgumentException,java.lang.IllegalStateException",
        "public int PermitRules.broken(int) throws java.lang.IllegalArgumentException,java.lang.IllegalStateException",
        "public long PermitRules.suggest(int,long,int) throws java.lang.IllegalArgumentException,java.lang.IllegalStateException",
        "public int PermitRules.count(int) throws java.lang.IllegalArgumentException"};

    public static void main(String[] args) {
        Check check = Check.begin();
        TreeSet<String> seen = new TreeSet<>();
        for (Constructor<?> member : PermitRules.class.getDeclaredConstructors()) {
            add(seen, member.getModifiers(), member.toString());
        }
        for (Field member : PermitRules.class.getDeclaredFields()) {
            add(seen, member.getModifiers(), member.toString());
        }
        for (Method member : PermitRules.class.getDeclaredMethods()) {
            add(seen, member.getModifiers(), member.toString());
        }
        TreeSet<String> want = new TreeSet<>(Arrays.asList(FACE));
        check.due("members that others see, " + seen, seen.equals(want) ? 1 : 0, 1);
        int modifiers = PermitRules.class.getModifiers();
        check.due("public and final", Modifier.isPublic(modifiers) && Modifier.isFinal(modifiers) ? 1 : 0, 1);
        check.end();
    }

    private static void add(TreeSet<String> seen, int modifiers, String member) {
        if (!Modifier.isPrivate(modifiers)) {
            seen.add(member);
        }
    }
}
