/** Promise 3: the last characters of the text go. */
public final class Promise03TrimTest {
    public static void main(String[] args) {
        Check check = Check.begin();
        PermitRules rules = new PermitRules();
        Check.say(rules, "a:1<2;zz");
        check.argument("trim(-1)", () -> rules.trim(-1));
        check.argument("trim(least)", () -> rules.trim(Integer.MIN_VALUE));
        check.argument("trim(9)", () -> rules.trim(9));
        check.argument("trim(greatest)", () -> rules.trim(Integer.MAX_VALUE));
        check.due("trim(0)", rules.trim(0), 8);
        check.due("trim(2)", rules.trim(2), 6);
        check.due("count(0)", rules.count(0), 6);
        Check.say(rules, "b:3<4");
        check.due("read()", rules.read(), 2);
        check.due("rule(b)", rules.rule('b'), 1);
        check.argument("trim(1) of nothing", () -> rules.trim(1));
        Check.say(rules, "abc");
        check.due("trim(3)", rules.trim(3), 0);
        check.due("read()", rules.read(), -1);
        check.due("the rules stay", rules.count(1), 2);
        check.end();
    }
}
