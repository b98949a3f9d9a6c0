/** Promise 11: the nearest value with which a rule would hold or be excepted. */
public final class Promise11SuggestTest {
    private static final long NO = PermitRules.NO;

    public static void main(String[] args) {
        Check check = Check.begin();
        nearest(check);
        bounds(check);
        statesThatDo(check);
        dayOfTheLatestRun(check);
        changesNothing(check);
        wrongInputs(check);
        check.end();
    }

    /** The suggestion for x, which has a value, on day 0. */
    private static void suggests(Check check, String text, int value, int steps, long want) {
        PermitRules rules = Check.of(text);
        rules.fact('x', value);
        rules.run(0);
        check.due("suggestion for '" + text + "' from " + value + " in " + steps, rules.suggest(0, 'x', steps), want);
    }

    private static void nearest(Check check) {
        suggests(check, "a:x<5", 7, 8, 4);
        suggests(check, "a:x<5", 7, 3, 4);
        suggests(check, "a:x<5", 7, 2, NO);
        suggests(check, "a:x>5", 1, 8, 6);
        suggests(check, "a:x=10", 2, 8, 10);
        suggests(check, "a:x=11", 2, 8, NO);
        suggests(check, "a:x=-6", 2, 8, -6);
        suggests(check, "a:x=-7", 2, 8, NO);
        // of two the greater, and the nearer before the greater
        suggests(check, "a:x*x=9", 0, 8, 3);
        suggests(check, "a:(x-1)*(x-1)>=4", 1, 8, 3);
        suggests(check, "a:(x-3)*(x+2)=0", 0, 8, -2);
        suggests(check, "a:(x+3)*(x-2)=0", 0, 8, 2);
        // not its own, even if the rule holds as it is
        suggests(check, "a:x=5", 5, 8, NO);
        suggests(check, "a:x<=5", 5, 8, 4);
        suggests(check, "a:x>=5", 5, 8, 6);
        suggests(check, "a:1<2", 5, 8, 6);
        suggests(check, "a:1<2", 5, 0, NO);
        suggests(check, "a:1<2", 5, 1, 6);
        suggests(check, "a:2<1", 5, 8, NO);
    }

    private static void bounds(Check check) {
        suggests(check, "a:1<2", 1000000000, 8, 999999999);
        suggests(check, "a:x>=1000*1000*1000", 999999999, 8, 1000000000);
        suggests(check, "a:x>1000*1000*1000", 999999999, 8, NO);
        suggests(check, "a:x<=-1000*1000*1000", -999999999, 8, -1000000000);
        suggests(check, "a:x<-1000*1000*1000", -999999999, 8, NO);
        suggests(check, "a:1<2", -1000000000, 8, -999999999);
    }

    private static void statesThatDo(Check check) {
        suggests(check, "a:x>20!x=7", 5, 8, 7);
        suggests(check, "a:x>9!x=7", 5, 8, 7);
        suggests(check, "a:x>6!x=3", 5, 8, 7);
        suggests(check, "a:x>20!x=7!2<1", 5, 8, NO);
        suggests(check, "a:1/x>0-3", 0, 8, 1);
        suggests(check, "a:y<1", 5, 8, NO);
        suggests(check, "a:x>7!y<1", 5, 8, 8);
        suggests(check, "a:12/(x-6)>5", 5, 8, 7);
        suggests(check, "a:x*x*x>0", 1000000000, 8, NO);
        suggests(check, "a:x=x", 5, 8, 6);
    }

    private static void dayOfTheLatestRun(Check check) {
        PermitRules rules = Check.of("a:x<5@10");
        rules.fact('x', 6);
        rules.run(9);
        check.due("LATER does not do", rules.suggest(0, 'x', 8), NO);
        rules.run(10);
        check.due("on its day", rules.suggest(0, 'x', 8), 4);
        rules.fact('x', 8);
        check.due("from the value it has now", rules.suggest(0, 'x', 8), 4);
        rules.run(0);
        check.due("on an earlier day again", rules.suggest(0, 'x', 8), NO);
    }

    private static void changesNothing(Check check) {
        PermitRules rules = Check.of("a:x<y");
        rules.fact('x', 6);
        rules.fact('y', 3);
        rules.run(0);
        check.due("suggest(0, x, 8)", rules.suggest(0, 'x', 8), 2);
        check.due("suggest(0, y, 8)", rules.suggest(0, 'y', 8), 7);
        check.due("suggest(0, y, 3)", rules.suggest(0, 'y', 3), NO);
        check.due("x has its value", rules.fact('x', 6), 6);
        check.due("y has its value", rules.fact('y', 3), 3);
        check.due("told(0, 0)", rules.told(0, 0), 1);
        check.due("told(0, 1)", rules.told(0, 1), 6);
        check.due("told(0, 3)", rules.told(0, 3), 3);
        check.due("broken(0)", rules.broken(0), 0);
        check.due("run(0)", rules.run(0), 1);
    }

    private static void wrongInputs(Check check) {
        PermitRules rules = Check.of("a:x<5;b:x<6");
        rules.fact('x', 9);
        check.state("suggest before a run", () -> rules.suggest(0, 'x', 1));
        for (int round = 0; round < 2; round++) {
            for (int steps : new int[] {-1, 9, Integer.MIN_VALUE, Integer.MAX_VALUE}) {
                check.argument("suggest(0, x, " + steps + ")", () -> rules.suggest(0, 'x', steps));
            }
            for (int rule : new int[] {-1, 2, 12, Integer.MIN_VALUE, Integer.MAX_VALUE}) {
                check.argument("suggest(" + rule + ", x, 1)", () -> rules.suggest(rule, 'x', 1));
            }
            for (long name : new long[] {0, 'y', 'X', 0x7800, 0x7878, -1}) {
                check.argument("suggest(0, " + name + ", 1)", () -> rules.suggest(0, name, 1));
            }
            rules.run(0);
        }
        check.due("suggest(1, x, 8)", rules.suggest(1, 'x', 8), 5);
        rules.forget('x');
        check.argument("suggest for a forgotten fact", () -> rules.suggest(0, 'x', 1));
        rules.fact('x', 9);
        Check.say(rules, "a:x<5");
        rules.read();
        check.state("suggest behind read", () -> rules.suggest(0, 'x', 1));
        check.argument("the rule that is no more", () -> rules.suggest(1, 'x', 1));
    }
}
