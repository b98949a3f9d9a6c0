/** Promise 10: the k-th broken rule of the latest run. */
public final class Promise10BrokenTest {
    public static void main(String[] args) {
        Check check = Check.begin();
        PermitRules rules = Check.of("a:x<5;b:x<1;c:z<1;d:x<1!1<2;e:x<1!2<1;f:x<1@3;g:x<2");
        check.state("broken(0) before a run", () -> rules.broken(0));
        check.argument("broken(-1) before a run", () -> rules.broken(-1));
        rules.fact('x', 2);
        check.due("run(0)", rules.run(0), 3);
        row(check, rules, 1, 4, 6);
        rules.fact('x', 9);
        row(check, rules, 1, 4, 6);
        check.due("run(3)", rules.run(3), 5);
        row(check, rules, 0, 1, 4, 5, 6);
        rules.suggest(0, 'x', 8);
        row(check, rules, 0, 1, 4, 5, 6);
        rules.fact('x', 0);
        check.due("run(3)", rules.run(3), 0);
        row(check, rules);
        check.argument("broken(-1)", () -> rules.broken(-1));
        check.argument("broken(least)", () -> rules.broken(Integer.MIN_VALUE));
        Check.say(rules, "a:2<1");
        rules.read();
        check.state("broken(0) behind read", () -> rules.broken(0));
        check.state("broken(greatest) behind read", () -> rules.broken(Integer.MAX_VALUE));
        rules.run(0);
        row(check, rules, 0);
        fewerRulesThanBefore(check);
        check.end();
    }

    private static void fewerRulesThanBefore(Check check) {
        PermitRules rules = Check.of("a:2<1;b:2<1;c:2<1");
        rules.run(0);
        row(check, rules, 0, 1, 2);
        Check.say(rules, "a:2<1");
        rules.read();
        check.due("run(0)", rules.run(0), 1);
        row(check, rules, 0);
    }

    private static void row(Check check, PermitRules rules, int... want) {
        for (int k = 0; k < want.length; k++) {
            check.due("broken(" + k + ")", rules.broken(k), want[k]);
        }
        for (int k : new int[] {want.length, want.length + 1, 12, 1000, Integer.MAX_VALUE}) {
            check.due("broken(" + k + ")", rules.broken(k), PermitRules.NONE);
        }
    }
}
