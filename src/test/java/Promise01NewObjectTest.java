/** Promise 1: an empty text, no rules, no facts. */
public final class Promise01NewObjectTest {
    public static void main(String[] args) {
        Check check = Check.begin();
        PermitRules rules = new PermitRules();
        for (int what = 0; what <= 3; what++) {
            check.due("count(" + what + ")", rules.count(what), 0);
        }
        check.due("trim(0)", rules.trim(0), 0);
        check.argument("trim(1)", () -> rules.trim(1));
        check.due("read()", rules.read(), -1);
        check.due("rule(a)", rules.rule('a'), PermitRules.NONE);
        check.due("forget(a)", rules.forget('a'), PermitRules.NO);
        check.argument("told(0, 0)", () -> rules.told(0, 0));
        check.argument("suggest(0, a, 1)", () -> rules.suggest(0, 'a', 1));
        check.state("broken(0) before a run", () -> rules.broken(0));
        check.due("run(0)", rules.run(0), 0);
        check.due("broken(0) behind a run", rules.broken(0), PermitRules.NONE);
        check.due("NONE", PermitRules.NONE, -1);
        check.due("NO", PermitRules.NO, 1000000000000L);
        objectsAreApart(check);
        check.end();
    }

    private static void objectsAreApart(Check check) {
        PermitRules one = Check.of("a:1<2");
        one.fact('x', 1);
        Check.say(one, "b");
        PermitRules other = new PermitRules();
        for (int what = 0; what <= 3; what++) {
            check.due("count(" + what + ") of another object", other.count(what), 0);
        }
    }
}
