/** The boundary cases of "Terms": a rule on a day. Each method tests one sentence. */
public final class BoundaryDaysTest {
    private static final String TRUE = "1<2";
    private static final String FALSE = "2<1";
    private static final String UNKNOWN = "x<1";

    public static void main(String[] args) {
        Check check = Check.begin();
        laterBelowItsDay(check);
        noDayIsDayZero(check);
        leftThenRight(check);
        holds(check);
        exceptions(check);
        firstThatDoesNotHold(check);
        elseBroken(check);
        open(check);
        check.end();
    }

    private static void onDay(Check check, String text, int day, int want) {
        PermitRules rules = Check.of(text);
        check.due("run(" + day + ") of '" + text + "'", rules.run(day), want == Asked.BROKEN ? 1 : 0);
        check.due("state of '" + text + "' on day " + day, rules.told(0, 0), want);
    }

    private static void laterBelowItsDay(Check check) {
        check.sentence("A RULE on a day: LATER (4), if the day is below its own.");
        int[] days = {1, 2, 77, 999999, 1000000};
        for (int day : days) {
            onDay(check, "a:" + FALSE + "@" + day, day - 1, Asked.LATER);
            onDay(check, "a:" + FALSE + "@" + day, day, Asked.BROKEN);
            onDay(check, "a:" + FALSE + "@" + day, 1000000, Asked.BROKEN);
            onDay(check, "a:" + FALSE + "@" + day, 0, Asked.LATER);
        }
        onDay(check, "a:" + FALSE + "@1000001", 1000000, Asked.LATER);
        onDay(check, "a:" + FALSE + "@999999999", 1000000, Asked.LATER);
        // nothing is reckoned then
        onDay(check, "a:" + UNKNOWN + "!1/0<1@5", 4, Asked.LATER);
        PermitRules rules = Check.of("a:1/0<1@5");
        rules.run(4);
        Asked.row(check, rules, 0, Asked.LATER, 0, 0, 0, 0, 0, 0);
    }

    private static void noDayIsDayZero(Check check) {
        check.sentence("the DAY from which it counts (else 0)");
        onDay(check, "a:" + FALSE, 0, Asked.BROKEN);
        onDay(check, "a:" + FALSE + "@0", 0, Asked.BROKEN);
        onDay(check, "a:" + FALSE + "@000000000", 0, Asked.BROKEN);
        // a day is its own rule's, and not the next one's
        PermitRules rules = Check.of("a:" + FALSE + "@9;b:" + FALSE + ";c:" + FALSE + "!" + TRUE + "@3");
        rules.run(0);
        check.due("a", rules.told(0, 0), Asked.LATER);
        check.due("b", rules.told(1, 0), Asked.BROKEN);
        check.due("c", rules.told(2, 0), Asked.LATER);
        rules.run(3);
        check.due("c on its day", rules.told(2, 0), Asked.EXCEPTED);
    }

    private static void leftThenRight(Check check) {
        check.sentence("Else its clause's left side is reckoned, then the right one, then compared");
        PermitRules rules = Check.of("a:1/0<x;b:3<x;c:x<3;d:3<1/0;e:1/3<1/4");
        rules.run(0);
        Asked.row(check, rules, 0, Asked.OPEN, 0, 0, 0, 0, Asked.ZERO, 0);
        Asked.row(check, rules, 1, Asked.OPEN, 3, 1, 0, 0, Asked.MISSING, 'x');
        Asked.row(check, rules, 2, Asked.OPEN, 0, 0, 0, 0, Asked.MISSING, 'x');
        Asked.row(check, rules, 3, Asked.OPEN, 3, 1, 0, 0, Asked.ZERO, 0);
        Asked.row(check, rules, 4, Asked.BROKEN, 1, 3, 1, 4, 0, 0);
    }

    private static void holds(Check check) {
        check.sentence("it HOLDS (0); if it does not, exceptions are reckoned one after the other");
        Asked.state(check, "a:" + TRUE, Asked.HOLDS);
        Asked.state(check, "a:" + TRUE + "!" + FALSE, Asked.HOLDS);
        Asked.state(check, "a:" + TRUE + "!" + UNKNOWN, Asked.HOLDS);
        Asked.state(check, "a:" + TRUE + "!1/0<1", Asked.HOLDS);
        Asked.open(check, "a:" + FALSE + "!1/0<1!" + UNKNOWN, Asked.ZERO);
        Asked.open(check, "a:" + FALSE + "!" + UNKNOWN + "!1/0<1", Asked.MISSING);
    }

    private static void exceptions(Check check) {
        check.sentence("if there is one, and all hold, it is EXCEPTED (2)");
        Asked.state(check, "a:" + FALSE, Asked.BROKEN);
        for (int howMany = 1; howMany <= 28; howMany++) {
            String all = "a:" + FALSE + Check.repeat("!" + TRUE, howMany);
            Asked.state(check, all, Asked.EXCEPTED);
            Asked.state(check, all.substring(0, all.length() - 3) + FALSE, Asked.BROKEN);
        }
        // the exceptions of another rule are none of this one
        PermitRules rules = Check.of("a:" + FALSE + "!" + TRUE + ";b:" + FALSE + ";c:" + FALSE + "!" + FALSE);
        check.due("run(0)", rules.run(0), 2);
        check.due("a", rules.told(0, 0), Asked.EXCEPTED);
        check.due("b", rules.told(1, 0), Asked.BROKEN);
        check.due("c", rules.told(2, 0), Asked.BROKEN);
    }

    private static void firstThatDoesNotHold(Check check) {
        check.sentence("(the first that does not hold ends that)");
        Asked.state(check, "a:" + FALSE + "!" + FALSE + "!" + UNKNOWN, Asked.BROKEN);
        Asked.state(check, "a:" + FALSE + "!" + TRUE + "!" + FALSE + "!1/0<1", Asked.BROKEN);
        Asked.open(check, "a:" + FALSE + "!" + UNKNOWN + "!" + FALSE, Asked.MISSING);
    }

    private static void elseBroken(Check check) {
        check.sentence("else BROKEN (1)");
        Asked.state(check, "a:" + FALSE, Asked.BROKEN);
        Asked.state(check, "a:" + FALSE + "!" + FALSE, Asked.BROKEN);
        Asked.state(check, "a:" + FALSE + "!" + FALSE + "!" + TRUE, Asked.BROKEN);
        Asked.state(check, "a:" + FALSE + "!" + TRUE + "!" + FALSE, Asked.BROKEN);
    }

    private static void open(Check check) {
        check.sentence("OPEN (3) if something of these is.");
        Asked.state(check, "a:" + UNKNOWN, Asked.OPEN);
        Asked.state(check, "a:" + UNKNOWN + "!" + TRUE, Asked.OPEN);
        Asked.state(check, "a:1<x!" + TRUE, Asked.OPEN);
        Asked.state(check, "a:" + FALSE + "!" + UNKNOWN, Asked.OPEN);
        Asked.state(check, "a:" + FALSE + "!" + TRUE + "!" + UNKNOWN, Asked.OPEN);
        Asked.state(check, "a:" + FALSE + "!" + TRUE + "!1<1/0", Asked.OPEN);
        // where an exception is compared as well
        Asked.open(check, "a:" + FALSE + "!1/536870912<536870912*536870912*16", Asked.GREAT);
        // an OPEN rule leaves the next one alone
        PermitRules rules = Check.of("a:" + UNKNOWN + ";b:" + FALSE + ";c:" + TRUE);
        check.due("run(0)", rules.run(0), 1);
        check.due("b", rules.told(1, 0), Asked.BROKEN);
        check.due("why b is OPEN", rules.told(1, 5), 0);
        check.due("what b misses", rules.told(1, 6), 0);
        check.due("c", rules.told(2, 0), Asked.HOLDS);
    }
}
