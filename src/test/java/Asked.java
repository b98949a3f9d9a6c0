/** What the tests share of rules that are asked: their states, and what their sides are. */
final class Asked {
    static final int HOLDS = 0;
    static final int BROKEN = 1;
    static final int EXCEPTED = 2;
    static final int OPEN = 3;
    static final int LATER = 4;

    static final int MISSING = 1;
    static final int GREAT = 2;
    static final int ZERO = 3;

    private Asked() {
    }

    /** The state of a text's first rule on day 0, without facts. */
    static void state(Check check, String text, int want) {
        PermitRules rules = Check.of(text);
        check.due("run of '" + text + "'", rules.run(0), want == BROKEN ? 1 : 0);
        check.due("state of '" + text + "'", rules.told(0, 0), want);
        check.due("OPEN alone has a reason, in '" + text + "'", rules.told(0, 5) != 0 ? 1 : 0, want == OPEN ? 1 : 0);
    }

    /** Why a text's first rule is OPEN on day 0, without facts. */
    static void open(Check check, String text, int why) {
        PermitRules rules = Check.of(text);
        rules.run(0);
        check.due("state of '" + text + "'", rules.told(0, 0), OPEN);
        check.due("why of '" + text + "'", rules.told(0, 5), why);
    }

    /** What a side is, in lowest terms, on the left and on the right. */
    static void side(Check check, String side, long upper, long lower) {
        PermitRules rules = Check.of("a:" + side + "=0;b:0=" + side);
        rules.run(0);
        check.due("upper number of " + side, rules.told(0, 1), upper);
        check.due("lower number of " + side, rules.told(0, 2), lower);
        check.due("upper number of the right " + side, rules.told(1, 3), upper);
        check.due("lower number of the right " + side, rules.told(1, 4), lower);
    }

    /** Why a side cannot be reckoned, on the left and on the right. */
    static void noSide(Check check, String side, int why) {
        open(check, "a:" + side + "=0", why);
        open(check, "a:0=" + side, why);
    }

    /** All that is told of a rule. */
    static void row(Check check, PermitRules rules, int rule, long... want) {
        for (int what = 0; what < want.length; what++) {
            check.due("told(" + rule + ", " + what + ")", rules.told(rule, what), want[what]);
        }
    }
}
