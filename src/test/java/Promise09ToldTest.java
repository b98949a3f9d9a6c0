/** Promise 9: what is told of a rule as it was asked last. */
public final class Promise09ToldTest {
    public static void main(String[] args) {
        Check check = Check.begin();
        allAnswers(check);
        asAskedLast(check);
        wrongInputs(check);
        check.end();
    }

    private static void row(Check check, String label, PermitRules rules, int rule, long... want) {
        for (int what = 0; what < want.length; what++) {
            check.due(label + ": told(" + rule + ", " + what + ")", rules.told(rule, what), want[what]);
        }
    }

    private static void allAnswers(Check check) {
        long gap = Check.pack("gap");
        PermitRules rules = Check.of("a:x/4<y;b:x/4>y;c:x/4>y!1<2;d:gap+1/0<y;e:x/4<1/gap;f:x/4>y!gap<1;"
            + "g:x/0<y;h:x*x*x*y<1;i:2<x/0;j:2<3@8;k:x/(0-4)<1/x/x*5!1<2");
        rules.fact('x', 1000000);
        rules.fact('y', 1000000000);
        rules.run(7);
        row(check, "HOLDS", rules, 0, 0, 250000, 1, 1000000000, 1, 0, 0);
        row(check, "BROKEN", rules, 1, 1, 250000, 1, 1000000000, 1, 0, 0);
        row(check, "EXCEPTED", rules, 2, 2, 250000, 1, 1000000000, 1, 0, 0);
        row(check, "OPEN on the left", rules, 3, 3, 0, 0, 0, 0, 1, gap);
        row(check, "OPEN on the right", rules, 4, 3, 250000, 1, 0, 0, 1, gap);
        row(check, "OPEN in an exception", rules, 5, 3, 250000, 1, 1000000000, 1, 1, gap);
        row(check, "OPEN by zero", rules, 6, 3, 0, 0, 0, 0, 3, 0);
        row(check, "OPEN as great", rules, 7, 3, 0, 0, 0, 0, 2, 0);
        row(check, "OPEN by zero on the right", rules, 8, 3, 2, 1, 0, 0, 3, 0);
        row(check, "LATER", rules, 9, 4, 0, 0, 0, 0, 0, 0);
        row(check, "fractions", rules, 10, 0, -250000, 1, 1, 200000000000L, 0, 0);
        PermitRules great = Check.of("a:x*x<y/x/x*2+1/3");
        great.fact('x', 1000000000);
        great.fact('y', 1);
        great.run(0);
        row(check, "OPEN where great sides are compared", great, 0,
            3, 1000000000000000000L, 1, 500000000000000003L, 1500000000000000000L, 2, 0);
    }

    private static void asAskedLast(Check check) {
        PermitRules rules = Check.of("a:x<3@2;b:1<x");
        check.state("told before a run", () -> rules.told(0, 0));
        rules.run(2);
        row(check, "without x", rules, 0, 3, 0, 0, 0, 0, 1, 'x');
        rules.fact('x', 2);
        row(check, "a fact changes nothing before the next run", rules, 0, 3, 0, 0, 0, 0, 1, 'x');
        rules.run(2);
        row(check, "with x", rules, 0, 0, 2, 1, 3, 1, 0, 0);
        rules.fact('x', 5);
        rules.suggest(0, 'x', 8);
        rules.suggest(1, 'x', 8);
        row(check, "a suggestion changes nothing", rules, 0, 0, 2, 1, 3, 1, 0, 0);
        row(check, "a suggestion changes nothing", rules, 1, 0, 1, 1, 2, 1, 0, 0);
        rules.run(1);
        row(check, "on an earlier day", rules, 0, 4, 0, 0, 0, 0, 0, 0);
        Check.say(rules, "a:x<3");
        rules.read();
        check.state("told behind read", () -> rules.told(0, 0));
        check.argument("the rule that is no more", () -> rules.told(1, 0));
    }

    private static void wrongInputs(Check check) {
        PermitRules rules = Check.of("a:1<2;b:1<2");
        int[] wrong = {-1, 2, 11, 12, Integer.MIN_VALUE, Integer.MAX_VALUE};
        for (int round = 0; round < 2; round++) {
            for (int rule : wrong) {
                check.argument("told(" + rule + ", 0)", () -> rules.told(rule, 0));
            }
            for (int what : new int[] {-1, 7, Integer.MIN_VALUE, Integer.MAX_VALUE}) {
                check.argument("told(0, " + what + ")", () -> rules.told(0, what));
            }
            rules.run(0);
        }
        check.due("told(1, 6)", rules.told(1, 6), 0);
    }
}
