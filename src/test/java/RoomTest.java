import com.sun.management.ThreadMXBean;
import java.lang.management.ManagementFactory;

/** The rows are made with the object: calls that answer make no objects. */
public final class RoomTest {
    private static final ThreadMXBean THREADS = (ThreadMXBean) ManagementFactory.getThreadMXBean();

    public static void main(String[] args) {
        Check check = Check.begin();
        long[] words = new long[100];
        int said = 0;
        String text = "a:x/3+y*(x-y)<x*y*4-(x/(y+1))!x=x!y/2>=x/7@3;b:x<y;c:y<x!x<1!y<1!x=y;d:x*x*x<y*y*y";
        for (int i = 0; i < text.length(); i += 8) {
            words[said++] = Check.pack(text.substring(i, Math.min(i + 8, text.length())));
        }
        PermitRules rules = new PermitRules();
        use(rules, words, said);
        long before = THREADS.getCurrentThreadAllocatedBytes();
        for (int round = 0; round < 10; round++) {
            use(rules, words, said);
        }
        long used = THREADS.getCurrentThreadAllocatedBytes() - before;
        System.out.println(used + " bytes were taken by some 500 calls");
        check.due("calls take next to no room", used < 8000 ? 1 : 0, 1);
        before = THREADS.getCurrentThreadAllocatedBytes();
        PermitRules other = new PermitRules();
        used = THREADS.getCurrentThreadAllocatedBytes() - before;
        System.out.println(used + " bytes were taken by an object");
        check.due("an object takes little room", used < 16000 && other.count(0) == 0 ? 1 : 0, 1);
        check.end();
    }

    private static void use(PermitRules rules, long[] words, int said) {
        for (int i = 0; i < said; i++) {
            rules.say(words[i]);
        }
        rules.read();
        rules.fact('x', 5);
        rules.fact('y', 7);
        rules.run(9);
        for (int rule = 0; rule < 4; rule++) {
            for (int what = 0; what < 5; what++) {
                rules.told(rule, what);
            }
            rules.suggest(rule, 'x', 8);
            rules.rule('a' + rule);
            rules.broken(rule);
            rules.count(rule);
        }
        rules.forget('y');
    }
}
