/** Promise 12: how many there are. */
public final class Promise12CountTest {
    public static void main(String[] args) {
        Check check = Check.begin();
        PermitRules rules = new PermitRules();
        row(check, rules, 0, 0, 0, 0);
        Check.say(rules, "a:1<2!3<4!5<6@9;b:1<2;c:1<2!3<4 ");
        row(check, rules, 32, 0, 0, 0);
        rules.read();
        row(check, rules, 0, 3, 0, 3);
        rules.fact('x', 1);
        rules.fact('y', 1);
        rules.fact('x', 2);
        row(check, rules, 0, 3, 2, 3);
        rules.forget('y');
        rules.run(0);
        row(check, rules, 0, 3, 1, 3);
        Check.say(rules, "d:1<2 ");
        rules.trim(1);
        row(check, rules, 5, 3, 1, 3);
        rules.read();
        row(check, rules, 0, 1, 1, 0);
        for (int what : new int[] {-1, 4, 5, Integer.MIN_VALUE, Integer.MAX_VALUE}) {
            check.argument("count(" + what + ")", () -> rules.count(what));
        }
        row(check, rules, 0, 1, 1, 0);
        check.end();
    }

    private static void row(Check check, PermitRules rules, int... want) {
        for (int what = 0; what < want.length; what++) {
            check.due("count(" + what + ")", rules.count(what), want[what]);
        }
    }
}
