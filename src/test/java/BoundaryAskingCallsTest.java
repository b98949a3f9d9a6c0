/** The boundary cases of facts and of promises 5 to 11: fact to suggest. Each method tests one sentence. */
public final class BoundaryAskingCallsTest {
    private static final long NO = PermitRules.NO;
    private static final int NONE = PermitRules.NONE;
    private static final int BILLION = 1000000000;

    public static void main(String[] args) {
        Check check = Check.begin();
        factValues(check);
        fortyFacts(check);
        factAnswers(check);
        factRefuses(check);
        factFull(check);
        forgetAnswers(check);
        forgetRefuses(check);
        runDays(check);
        runCounts(check);
        runRefuses(check);
        ruleNumbers(check);
        ruleRefuses(check);
        toldAsAskedLast(check);
        toldSides(check);
        toldWhy(check);
        toldMissing(check);
        toldRefuses(check);
        toldUnasked(check);
        brokenOnes(check);
        brokenRefuses(check);
        brokenUnasked(check);
        suggestNearest(check);
        suggestSteps(check);
        suggestNotItsOwn(check);
        suggestBounds(check);
        suggestStates(check);
        suggestDay(check);
        suggestGreater(check);
        suggestNone(check);
        suggestRefuses(check);
        suggestUnasked(check);
        check.end();
    }

    /** 40 names, each apart. */
    private static long name(int i) {
        return 0x6161 + i % 20 + 256 * (i / 20);
    }

    private static PermitRules withFacts(int howMany) {
        PermitRules rules = new PermitRules();
        for (int i = 0; i < howMany; i++) {
            rules.fact(name(i), i);
        }
        return rules;
    }

    /** What is suggested for x, which has a value, in a text's first rule on day 0. */
    private static void suggests(Check check, String text, int value, int steps, long want) {
        PermitRules rules = Check.of(text);
        rules.fact('x', value);
        rules.run(0);
        check.due("suggestion for '" + text + "' from " + value + " in " + steps, rules.suggest(0, 'x', steps), want);
    }

    private static void factValues(Check check) {
        check.sentence("FACTS have names and values, whole numbers -10^9 .. 10^9");
        PermitRules rules = new PermitRules();
        long before = NO;
        for (int value : new int[] {0, 1, -1, BILLION - 1, BILLION, -BILLION, 1 - BILLION, 0}) {
            check.due("fact(x, " + value + ")", rules.fact('x', value), before);
            before = value;
        }
        for (int value : new int[] {BILLION + 1, -BILLION - 1, Integer.MAX_VALUE, Integer.MIN_VALUE}) {
            check.argument("fact(x, " + value + ")", () -> rules.fact('x', value));
        }
        check.due("what x has", rules.forget('x'), 0);
    }

    private static void fortyFacts(Check check) {
        check.sentence("40 at most");
        PermitRules rules = withFacts(40);
        check.due("facts", rules.count(2), 40);
        check.state("one more", () -> rules.fact('x', 1));
        for (int i = 0; i < 40; i++) {
            check.due("fact " + i, rules.fact(name(i), -i), i);
        }
        for (int i = 0; i < 40; i++) {
            check.due("forget " + i, rules.forget(name(i)), -i);
        }
        check.due("facts", rules.count(2), 0);
    }

    private static void factAnswers(Check check) {
        check.sentence("A fact has a value: what it had, NO if it was none.");
        PermitRules rules = new PermitRules();
        check.due("fact(x, 0)", rules.fact('x', 0), NO);
        check.due("fact(x, 0) again", rules.fact('x', 0), 0);
        check.due("fact(x, -1)", rules.fact('x', -1), 0);
        check.due("fact(xx, 5)", rules.fact(0x7878, 5), NO);
        check.due("fact(x, 3)", rules.fact('x', 3), -1);
        check.due("forget(x)", rules.forget('x'), 3);
        check.due("fact(x, 4) behind forget", rules.fact('x', 4), NO);
        check.due("fact(abcdefgh, 1)", rules.fact(Check.pack("abcdefgh"), 1), NO);
        check.due("fact(abcdefgi, 2)", rules.fact(Check.pack("abcdefgi"), 2), NO);
        check.due("fact(bbcdefgh, 3)", rules.fact(Check.pack("bbcdefgh"), 3), NO);
        check.due("fact(abcdefgh, 4)", rules.fact(Check.pack("abcdefgh"), 4), 1);
    }

    private static void factRefuses(Check check) {
        check.sentence("Illegal argument: no name, or value");
        PermitRules rules = new PermitRules();
        rules.fact('x', 7);
        for (long name : new long[] {0, 'X', 0x7800, 0x78007A, -1, 0x7878787878787800L}) {
            check.argument("fact(" + Long.toHexString(name) + ", 1)", () -> rules.fact(name, 1));
            check.argument("fact(" + Long.toHexString(name) + ", 10^9 + 1)", () -> rules.fact(name, BILLION + 1));
        }
        check.argument("fact(x, 10^9 + 1)", () -> rules.fact('x', BILLION + 1));
        check.argument("fact(x, -10^9 - 1)", () -> rules.fact('x', -BILLION - 1));
        check.argument("fact(new, 10^9 + 1)", () -> rules.fact('y', BILLION + 1));
        check.due("facts", rules.count(2), 1);
        check.due("what x has", rules.fact('x', 7), 7);
    }

    private static void factFull(Check check) {
        check.sentence("illegal state: it is new, and there are 40.");
        PermitRules rules = withFacts(39);
        check.due("the 40th", rules.fact('x', 39), NO);
        check.state("the 41st", () -> rules.fact('y', 40));
        check.state("the 41st again", () -> rules.fact('y', 40));
        check.due("facts", rules.count(2), 40);
        check.due("it is none", rules.forget('y'), NO);
        check.due("the first is not new", rules.fact(name(0), 50), 0);
        check.due("the last is not new", rules.fact('x', 51), 39);
        check.due("forget(x)", rules.forget('x'), 51);
        check.due("then there is room", rules.fact('y', 40), NO);
        check.state("and then none", () -> rules.fact('x', 1));
    }

    private static void forgetAnswers(Check check) {
        check.sentence("A fact is forgotten: what it had, NO if it was none.");
        PermitRules none = new PermitRules();
        check.due("forget(x) without facts", none.forget('x'), NO);
        for (int which : new int[] {0, 1, 20, 38, 39}) {
            PermitRules rules = withFacts(40);
            check.due("forget " + which, rules.forget(name(which)), which);
            check.due("forget " + which + " again", rules.forget(name(which)), NO);
            check.due("facts", rules.count(2), 39);
            for (int i = 0; i < 40; i++) {
                if (i != which) {
                    check.due("fact " + i + " stays", rules.fact(name(i), i), i);
                }
            }
        }
        none.fact('x', 0);
        check.due("forget(x) of 0", none.forget('x'), 0);
        check.due("facts", none.count(2), 0);
    }

    private static void forgetRefuses(Check check) {
        check.sentence("Illegal argument: no name.");
        PermitRules rules = withFacts(2);
        for (long name : new long[] {0, 'A', '`', '{', 0x6100, 0x610061, 0x6161616161616100L, -1, Long.MIN_VALUE}) {
            check.argument("forget(" + Long.toHexString(name) + ")", () -> rules.forget(name));
        }
        check.due("facts", rules.count(2), 2);
    }

    private static void runDays(Check check) {
        check.sentence("All rules are asked on a day (0 .. 10^6)");
        PermitRules rules = Check.of("a:2<1;b:2<1@1;c:2<1@1000000;d:2<1@1000001");
        check.due("run(0)", rules.run(0), 1);
        check.due("run(1)", rules.run(1), 2);
        check.due("run(999999)", rules.run(999999), 2);
        check.due("run(10^6)", rules.run(1000000), 3);
        check.due("run(0) again", rules.run(0), 1);
    }

    private static void runCounts(Check check) {
        check.sentence("how many are BROKEN.");
        check.due("run(0) without rules", new PermitRules().run(0), 0);
        StringBuilder text = new StringBuilder();
        for (int i = 0; i < 12; i++) {
            text.append((char) ('a' + i)).append(":x<").append(i + 1).append(';');
        }
        PermitRules rules = Check.of(text.toString());
        check.due("run(0) without facts", rules.run(0), 0);
        for (int value = 0; value <= 12; value++) {
            rules.fact('x', value);
            check.due("run(0) with x = " + value, rules.run(0), value);
        }
        // HOLDS, EXCEPTED, OPEN and LATER are none
        check.due("one of each", Check.of("a:1<2;b:2<1;c:2<1!1<2;d:x<1;e:2<1@9").run(0), 1);
    }

    private static void runRefuses(Check check) {
        check.sentence("Illegal argument.");
        PermitRules rules = Check.of("a:x<5@10");
        rules.fact('x', 6);
        check.argument("run(-1) first", () -> rules.run(-1));
        check.state("told(0, 0) is not asked by it", () -> rules.told(0, 0));
        rules.run(10);
        for (int day : new int[] {-1, 1000001, Integer.MIN_VALUE, Integer.MAX_VALUE}) {
            check.argument("run(" + day + ")", () -> rules.run(day));
            check.due("told(0, 0)", rules.told(0, 0), Asked.BROKEN);
            check.due("the day stays", rules.suggest(0, 'x', 8), 4);
        }
        check.argument("run(-1) without rules", () -> new PermitRules().run(-1));
    }

    private static void ruleNumbers(Check check) {
        check.sentence("The number of the rule with a name; NONE.");
        check.due("rule(a) without rules", new PermitRules().rule('a'), NONE);
        PermitRules rules = Check.of("l:1<2;k:1<2;j:1<2;i:1<2;h:1<2;g:1<2;f:1<2;e:1<2;d:1<2;c:1<2;b:1<2;a:x<2");
        for (int i = 0; i < 12; i++) {
            check.due("rule " + i, rules.rule('l' - i), i);
        }
        check.due("rule(x), a fact's name", rules.rule('x'), NONE);
        check.due("rule(m)", rules.rule('m'), NONE);
        check.due("rule(aa)", rules.rule(0x6161), NONE);
        check.due("rule(zzzzzzzz)", rules.rule(Check.pack("zzzzzzzz")), NONE);
        Check.say(rules, "l:1<2");
        check.due("rule(a) before read", rules.rule('a'), 11);
        rules.read();
        check.due("rule(a) behind read", rules.rule('a'), NONE);
        check.due("rule(l) behind read", rules.rule('l'), 0);
    }

    private static void ruleRefuses(Check check) {
        check.sentence("Illegal argument: no name.");
        PermitRules rules = Check.of("a:1<2");
        for (long name : new long[] {0, 'A', '`', '{', 0x6100, 0x610061, 0x6100000000000000L, -1, Long.MIN_VALUE}) {
            check.argument("rule(" + Long.toHexString(name) + ")", () -> rules.rule(name));
            check.argument("rule(" + Long.toHexString(name) + ")", () -> new PermitRules().rule(name));
        }
    }

    private static void toldAsAskedLast(Check check) {
        check.sentence("Of a rule as it was asked last: what = 0 whether it HOLDS and so on");
        PermitRules rules = Check.of("a:x<3@2");
        rules.run(2);
        check.due("without x", rules.told(0, 0), Asked.OPEN);
        rules.fact('x', 2);
        check.due("x comes behind the run", rules.told(0, 0), Asked.OPEN);
        rules.run(2);
        check.due("with x", rules.told(0, 0), Asked.HOLDS);
        rules.fact('x', 3);
        check.due("x changes behind the run", rules.told(0, 0), Asked.HOLDS);
        rules.suggest(0, 'x', 8);
        check.due("suggest asks nothing", rules.told(0, 0), Asked.HOLDS);
        check.due("suggest asks nothing", rules.told(0, 1), 2);
        rules.forget('x');
        check.due("x goes behind the run", rules.told(0, 0), Asked.HOLDS);
        rules.run(1);
        check.due("on an earlier day", rules.told(0, 0), Asked.LATER);
        check.due("nothing of the run before is left", rules.told(0, 1), 0);
    }

    private static void toldSides(Check check) {
        check.sentence("1 and 2 its left side's upper and lower number, 3 and 4 the right one's (0 and 0 if it was not reckoned)");
        PermitRules rules = Check.of("a:-6/4<8/6;b:x<1;c:1/2<x;d:1/2<1/3!x<1;e:0<0@1;f:1/2<1/3!5/7<1;g:0=0");
        rules.run(0);
        Asked.row(check, rules, 0, Asked.HOLDS, -3, 2, 4, 3, 0, 0);
        Asked.row(check, rules, 1, Asked.OPEN, 0, 0, 0, 0, Asked.MISSING, 'x');
        Asked.row(check, rules, 2, Asked.OPEN, 1, 2, 0, 0, Asked.MISSING, 'x');
        Asked.row(check, rules, 3, Asked.OPEN, 1, 2, 1, 3, Asked.MISSING, 'x');
        Asked.row(check, rules, 4, Asked.LATER, 0, 0, 0, 0, 0, 0);
        Asked.row(check, rules, 5, Asked.EXCEPTED, 1, 2, 1, 3, 0, 0);
        Asked.row(check, rules, 6, Asked.HOLDS, 0, 1, 0, 1, 0, 0);
        // both sides are reckoned here, and too great to be compared
        PermitRules great = Check.of("a:1/536870912=536870912*536870912*16");
        great.run(0);
        Asked.row(check, great, 0, Asked.OPEN, 1, 1L << 29, 1L << 62, 1, Asked.GREAT, 0);
    }

    private static void toldWhy(Check check) {
        check.sentence("5 why it is OPEN, 0 if it is not");
        PermitRules rules = Check.of("a:x<1;b:536870912*536870912*32<1;c:1/0<1;d:1<2;e:2<1;f:2<1!1<2;g:1/0<1@1;h:2<1!1/0<1");
        rules.run(0);
        long[] want = {Asked.MISSING, Asked.GREAT, Asked.ZERO, 0, 0, 0, 0, Asked.ZERO};
        for (int i = 0; i < want.length; i++) {
            check.due("told(" + i + ", 5)", rules.told(i, 5), want[i]);
        }
    }

    private static void toldMissing(Check check) {
        check.sentence("6 the name that is MISSING, 0 for none.");
        PermitRules rules = Check.of("a:abcdefgh<z;b:1<z;c:1/0<z;d:2<1!y<z;e:1<2;f:z<1@1;g:z/0<1;h:536870912*536870912*32<z");
        rules.run(0);
        long[] want = {Check.pack("abcdefgh"), 'z', 0, 'y', 0, 0, 'z', 0};
        for (int i = 0; i < want.length; i++) {
            check.due("told(" + i + ", 6)", rules.told(i, 6), want[i]);
        }
    }

    private static void toldRefuses(Check check) {
        check.sentence("Illegal argument: also if what is none of these");
        PermitRules rules = Check.of("a:1<2;b:1<2");
        for (int round = 0; round < 2; round++) {
            for (int number : new int[] {-1, 7, 8, Integer.MIN_VALUE, Integer.MAX_VALUE}) {
                check.argument("told(0, " + number + ")", () -> rules.told(0, number));
                check.argument("told(1, " + number + ")", () -> rules.told(1, number));
                check.argument("told(" + number + ", 0)", () -> rules.told(number, 0));
            }
            check.argument("told(2, 0)", () -> rules.told(2, 0));
            rules.run(0);
        }
        check.due("told(1, 6)", rules.told(1, 6), 0);
    }

    private static void toldUnasked(Check check) {
        check.sentence("illegal state: it was not asked since it was read.");
        PermitRules rules = Check.of("a:1<2");
        for (int what = 0; what <= 6; what++) {
            int asked = what;
            check.state("told(0, " + what + ")", () -> rules.told(0, asked));
        }
        rules.run(0);
        check.due("told(0, 0)", rules.told(0, 0), Asked.HOLDS);
        Check.say(rules, "a:1<2");
        check.due("a text that is not read changes nothing", rules.told(0, 0), Asked.HOLDS);
        rules.read();
        check.state("told(0, 0) of the same rule once more", () -> rules.told(0, 0));
    }

    private static void brokenOnes(Check check) {
        check.sentence("The k-th BROKEN rule (from 0) of the latest run; NONE without it.");
        PermitRules rules = Check.of("a:1<2;b:2<1;c:2<1!1<2;d:x<1;e:2<1@9;f:2<1");
        check.due("run(0)", rules.run(0), 2);
        check.due("broken(0)", rules.broken(0), 1);
        check.due("broken(1)", rules.broken(1), 5);
        check.due("broken(2)", rules.broken(2), NONE);
        check.due("broken(greatest)", rules.broken(Integer.MAX_VALUE), NONE);
        check.due("run(9)", rules.run(9), 3);
        check.due("broken(1)", rules.broken(1), 4);
        check.due("broken(2)", rules.broken(2), 5);
        check.due("broken(3)", rules.broken(3), NONE);
        PermitRules all = Check.of("a:2<1;b:2<1;c:2<1;d:2<1;e:2<1;f:2<1;g:2<1;h:2<1;i:2<1;j:2<1;k:2<1;l:2<1");
        all.run(0);
        for (int k = 0; k < 12; k++) {
            check.due("broken(" + k + ") of 12", all.broken(k), k);
        }
        check.due("broken(12)", all.broken(12), NONE);
        // of rules that there were before nothing is left
        Check.say(all, "a:2<1;b:2<1");
        all.read();
        all.run(0);
        check.due("broken(1) of 2", all.broken(1), 1);
        check.due("broken(2) of 2", all.broken(2), NONE);
        PermitRules none = Check.of("a:1<2");
        none.run(0);
        check.due("broken(0) without one", none.broken(0), NONE);
    }

    private static void brokenRefuses(Check check) {
        check.sentence("Illegal argument: k is below 0");
        PermitRules rules = Check.of("a:2<1");
        check.argument("broken(-1), not asked", () -> rules.broken(-1));
        rules.run(0);
        check.argument("broken(-1)", () -> rules.broken(-1));
        check.argument("broken(least)", () -> rules.broken(Integer.MIN_VALUE));
        check.argument("broken(-1) of a new object", () -> new PermitRules().broken(-1));
        check.due("broken(0)", rules.broken(0), 0);
    }

    private static void brokenUnasked(Check check) {
        check.sentence("illegal state: rules were not asked since they were read.");
        check.state("broken(0) of a new object", () -> new PermitRules().broken(0));
        PermitRules rules = Check.of("a:2<1");
        check.state("broken(0) behind read", () -> rules.broken(0));
        check.state("broken(12) behind read", () -> rules.broken(12));
        rules.run(0);
        check.due("broken(0) behind run", rules.broken(0), 0);
        Check.say(rules, "a:2<1");
        rules.read();
        check.state("broken(0) behind read again", () -> rules.broken(0));
    }

    private static void suggestNearest(Check check) {
        check.sentence("The value that is nearest to a fact's own");
        suggests(check, "a:x<5", 7, 8, 4);
        suggests(check, "a:x>5", 1, 8, 6);
        suggests(check, "a:(x-3)*(x+2)=0", 0, 8, -2);
        suggests(check, "a:(x+3)*(x-2)=0", 0, 8, 2);
        PermitRules rules = Check.of("a:x<5");
        rules.fact('x', 7);
        rules.run(0);
        rules.fact('x', 9);
        check.due("its own is what it has now", rules.suggest(0, 'x', 5), 4);
        check.due("not what it had", rules.suggest(0, 'x', 4), NO);
    }

    private static void suggestSteps(Check check) {
        check.sentence("no more than steps from it");
        for (int steps = 0; steps <= 8; steps++) {
            suggests(check, "a:x=0", steps, steps, steps == 0 ? NO : 0);
            suggests(check, "a:x=0", -steps, steps, steps == 0 ? NO : 0);
            suggests(check, "a:x=0", steps + 1, steps, NO);
            suggests(check, "a:x=0", -steps - 1, steps, NO);
        }
    }

    private static void suggestNotItsOwn(Check check) {
        check.sentence("not its own");
        suggests(check, "a:x=5", 5, 8, NO);
        suggests(check, "a:x<=5", 5, 8, 4);
        suggests(check, "a:1<2", 5, 8, 6);
        suggests(check, "a:1<2", 5, 0, NO);
    }

    private static void suggestBounds(Check check) {
        check.sentence("and not out of bounds");
        suggests(check, "a:1<2", BILLION, 8, BILLION - 1);
        suggests(check, "a:1<2", -BILLION, 8, 1 - BILLION);
        suggests(check, "a:x>999999999", 999999999, 8, BILLION);
        suggests(check, "a:x>999999999", 999999992, 8, BILLION);
        suggests(check, "a:x>999999999+1", BILLION, 8, NO);
        suggests(check, "a:x>999999999+1", 999999999, 8, NO);
        suggests(check, "a:x<-999999999", -999999992, 8, -BILLION);
        suggests(check, "a:x<-999999999-1", -BILLION, 8, NO);
    }

    private static void suggestStates(Check check) {
        check.sentence("with which a rule would be HOLDS or EXCEPTED");
        suggests(check, "a:x>20!x=7", 5, 8, 7);
        suggests(check, "a:x>6!x=3", 5, 8, 7);
        suggests(check, "a:x>8!x=3", 5, 8, 3);
        suggests(check, "a:x>20!x=7!2<1", 5, 8, NO);
        // OPEN does not do, and values around it may
        suggests(check, "a:y<1", 5, 8, NO);
        suggests(check, "a:6/(x-6)>5", 5, 8, 7);
        suggests(check, "a:6/x>0-9", 0, 8, 1);
        suggests(check, "a:x*x*x>0", BILLION, 8, NO);
        // LATER does not do
        suggests(check, "a:1<2@1", 5, 8, NO);
    }

    private static void suggestDay(Check check) {
        check.sentence("on the day of the latest run");
        PermitRules rules = Check.of("a:x<5@10;b:x<5");
        rules.fact('x', 6);
        rules.run(10);
        check.due("on day 10", rules.suggest(0, 'x', 8), 4);
        rules.run(9);
        check.due("on day 9", rules.suggest(0, 'x', 8), NO);
        check.due("another rule on day 9", rules.suggest(1, 'x', 8), 4);
        rules.run(1000000);
        check.due("on day 10^6", rules.suggest(0, 'x', 8), 4);
    }

    private static void suggestGreater(Check check) {
        check.sentence("(of two the greater)");
        for (int distance = 1; distance <= 8; distance++) {
            suggests(check, "a:x*x=" + distance * distance, 0, 8, distance);
            suggests(check, "a:(x+50)*(x+50)=" + distance * distance, -50, 8, distance - 50);
        }
    }

    private static void suggestNone(Check check) {
        check.sentence("NO if there is none.");
        suggests(check, "a:2<1", 5, 8, NO);
        suggests(check, "a:x=x+1", 5, 8, NO);
        suggests(check, "a:x=14", 5, 8, NO);
        suggests(check, "a:x=-4", 5, 8, NO);
    }

    private static void suggestRefuses(Check check) {
        check.sentence("Illegal argument: steps are not 0 .. 8, or it is no fact");
        PermitRules rules = Check.of("a:x<5");
        rules.fact('x', 9);
        for (int round = 0; round < 2; round++) {
            for (int steps : new int[] {-1, 9, Integer.MIN_VALUE, Integer.MAX_VALUE}) {
                check.argument("suggest(0, x, " + steps + ")", () -> rules.suggest(0, 'x', steps));
            }
            for (long name : new long[] {0, 'y', 'a', 'X', 0x7800, 0x7878, -1}) {
                check.argument("suggest(0, " + Long.toHexString(name) + ", 1)", () -> rules.suggest(0, name, 1));
            }
            rules.run(0);
        }
        check.due("suggest(0, x, 0)", rules.suggest(0, 'x', 0), NO);
        check.due("suggest(0, x, 8)", rules.suggest(0, 'x', 8), 4);
    }

    private static void suggestUnasked(Check check) {
        check.sentence("illegal state: rules were not asked since they were read.");
        PermitRules rules = Check.of("a:x<5");
        rules.fact('x', 9);
        check.state("suggest before a run", () -> rules.suggest(0, 'x', 8));
        check.state("suggest in no steps before a run", () -> rules.suggest(0, 'x', 0));
        rules.run(0);
        check.due("suggest behind a run", rules.suggest(0, 'x', 8), 4);
        Check.say(rules, "a:x<5");
        rules.read();
        check.state("suggest behind read", () -> rules.suggest(0, 'x', 8));
    }
}
