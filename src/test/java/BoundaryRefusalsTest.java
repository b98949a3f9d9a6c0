import java.util.ArrayList;
import java.util.List;

/** The boundary cases of the paragraph "In all calls illegal argument". Each method tests one sentence. */
public final class BoundaryRefusalsTest {
    /** Names as numbers that are none: nothing, other characters, zeros between or behind, more than letters. */
    private static final long[] NO_NAMES = {0, 1, '`', '{', 'A', 'Z', '0', ' ', 0xE1, 0x6100, 0x610061, 0x61620063,
        0x6141, 0x4161, 0x7A7B, 0x6100000000000000L, 0x6161616161616100L, 0x6100616161616161L, 0x6161616161616160L,
        0x7B61616161616161L, 0xE161616161616161L, -1, Long.MIN_VALUE, Long.MAX_VALUE};

    private interface WrongCall {
        long on(PermitRules rules);
    }

    public static void main(String[] args) {
        Check check = Check.begin();
        outOfBounds(check);
        noSuchRule(check);
        noSuchFact(check);
        letters(check);
        othersAreNoNames(check);
        asTold(check);
        argumentBeforeState(check);
        changesNothing(check);
        check.end();
    }

    private static PermitRules withTwoRules() {
        PermitRules rules = Check.of("a:x<5;b:x<6");
        rules.fact('x', 9);
        return rules;
    }

    private static void outOfBounds(Check check) {
        check.sentence("In all calls illegal argument: a number is out of its bounds");
        PermitRules rules = withTwoRules();
        rules.run(0);
        int[] far = {Integer.MIN_VALUE, Integer.MIN_VALUE + 1, Integer.MAX_VALUE - 1, Integer.MAX_VALUE};
        for (int number : far) {
            check.argument("trim(" + number + ")", () -> rules.trim(number));
            check.argument("fact(x, " + number + ")", () -> rules.fact('x', number));
            check.argument("run(" + number + ")", () -> rules.run(number));
            check.argument("told(" + number + ", 0)", () -> rules.told(number, 0));
            check.argument("told(0, " + number + ")", () -> rules.told(0, number));
            check.argument("suggest(" + number + ", x, 1)", () -> rules.suggest(number, 'x', 1));
            check.argument("suggest(0, x, " + number + ")", () -> rules.suggest(0, 'x', number));
            check.argument("count(" + number + ")", () -> rules.count(number));
        }
        check.argument("broken(least)", () -> rules.broken(Integer.MIN_VALUE));
        check.due("broken(greatest)", rules.broken(Integer.MAX_VALUE), PermitRules.NONE);
        check.argument("say(least)", () -> rules.say(Long.MIN_VALUE));
        check.argument("say(greatest)", () -> rules.say(Long.MAX_VALUE));
    }

    private static void noSuchRule(Check check) {
        check.sentence("there is no such rule");
        PermitRules rules = withTwoRules();
        rules.run(0);
        for (int number : new int[] {-1, 2, 11, 12}) {
            check.argument("told(" + number + ", 0)", () -> rules.told(number, 0));
            check.argument("suggest(" + number + ", x, 1)", () -> rules.suggest(number, 'x', 1));
        }
        check.due("told(1, 0)", rules.told(1, 0), Asked.BROKEN);
        check.due("suggest(1, x, 8)", rules.suggest(1, 'x', 8), 5);
        PermitRules none = new PermitRules();
        none.fact('x', 1);
        none.run(0);
        check.argument("told(0, 0) without rules", () -> none.told(0, 0));
        check.argument("suggest(0, x, 1) without rules", () -> none.suggest(0, 'x', 1));
    }

    private static void noSuchFact(Check check) {
        check.sentence("or fact");
        PermitRules rules = withTwoRules();
        rules.run(0);
        check.argument("suggest(0, y, 1)", () -> rules.suggest(0, 'y', 1));
        check.argument("suggest(0, xx, 1)", () -> rules.suggest(0, 0x7878, 1));
        check.argument("suggest(0, a, 1), a rule's name", () -> rules.suggest(0, 'a', 1));
        rules.forget('x');
        check.argument("suggest(0, x, 1) behind forget", () -> rules.suggest(0, 'x', 1));
    }

    private static void letters(Check check) {
        check.sentence("A name as a number is its letters as bytes, the first one highest (each as often as it is there)");
        PermitRules rules = Check.of("a:1<2;ab:1<2;ba:1<2;aab:1<2;abb:1<2;aaaaaaaa:1<2;abcdefgh:1<2;zzzzzzzz:1<2");
        check.due("a", rules.rule(0x61), 0);
        check.due("ab", rules.rule(0x6162), 1);
        check.due("ba", rules.rule(0x6261), 2);
        check.due("aab", rules.rule(0x616162), 3);
        check.due("abb", rules.rule(0x616262), 4);
        check.due("aaaaaaaa", rules.rule(0x6161616161616161L), 5);
        check.due("abcdefgh", rules.rule(0x6162636465666768L), 6);
        check.due("zzzzzzzz", rules.rule(0x7A7A7A7A7A7A7A7AL), 7);
        check.due("aa", rules.rule(0x6161), PermitRules.NONE);
        check.due("aaaaaaa", rules.rule(0x61616161616161L), PermitRules.NONE);
    }

    private static void othersAreNoNames(Check check) {
        check.sentence("others are no names");
        PermitRules rules = withTwoRules();
        rules.run(0);
        for (long name : NO_NAMES) {
            String hex = Long.toHexString(name);
            check.argument("fact(" + hex + ", 1)", () -> rules.fact(name, 1));
            check.argument("forget(" + hex + ")", () -> rules.forget(name));
            check.argument("rule(" + hex + ")", () -> rules.rule(name));
            check.argument("suggest(0, " + hex + ", 1)", () -> rules.suggest(0, name, 1));
        }
        check.due("facts", rules.count(2), 1);
    }

    private static void asTold(Check check) {
        check.sentence("Illegal state: as told.");
        PermitRules rules = withTwoRules();
        check.state("told(0, 0)", () -> rules.told(0, 0));
        check.state("broken(0)", () -> rules.broken(0));
        check.state("suggest(0, x, 0)", () -> rules.suggest(0, 'x', 0));
        // the others need no run, and no rules
        PermitRules none = new PermitRules();
        check.due("rule(a)", none.rule('a'), PermitRules.NONE);
        check.due("forget(a)", none.forget('a'), PermitRules.NO);
        check.due("run(0)", none.run(0), 0);
        check.due("count(3)", none.count(3), 0);
        check.due("read()", none.read(), -1);
    }

    private static void argumentBeforeState(Check check) {
        check.sentence("Of several exceptions the one named first is thrown");
        PermitRules rules = Check.of("a:x<5;b:x<6");
        for (int i = 0; i < 100; i++) {
            rules.say(0x2020202020202020L);
        }
        for (int i = 0; i < 40; i++) {
            rules.fact(0x6161 + i % 20 + 256 * (i / 20), i);
        }
        check.argument("a full text and a wrong byte", () -> rules.say(0x611FL));
        check.argument("a full text and a wrong byte in front", () -> rules.say(0x7F61616161616161L));
        check.argument("40 facts and no name", () -> rules.fact('A', 1));
        check.argument("40 facts and no value", () -> rules.fact('x', 1000000001));
        check.argument("40 facts and no value", () -> rules.fact('x', -1000000001));
        check.argument("not asked, and no rule", () -> rules.told(2, 0));
        check.argument("not asked, and no what", () -> rules.told(0, 7));
        check.argument("not asked, and below 0", () -> rules.broken(-1));
        check.argument("not asked, and no rule", () -> rules.suggest(2, 0x6161, 1));
        check.argument("not asked, and no fact", () -> rules.suggest(0, 'x', 1));
        check.argument("not asked, and no name", () -> rules.suggest(0, 0, 1));
        check.argument("not asked, and no steps", () -> rules.suggest(0, 0x6161, 9));
        check.state("not asked alone", () -> rules.suggest(0, 0x6161, 8));
    }

    private static void changesNothing(Check check) {
        check.sentence("a call that throws changes nothing.");
        for (boolean asked : new boolean[] {true, false}) {
            for (boolean full : new boolean[] {true, false}) {
                refusals(check, asked, full);
            }
        }
    }

    private static void refusals(Check check, boolean asked, boolean full) {
        refused(check, "say(31)", asked, full, rules -> rules.say(31));
        refused(check, "say(a and 127)", asked, full, rules -> rules.say(0x617FL));
        refused(check, "say(-1)", asked, full, rules -> rules.say(-1));
        refused(check, "trim(-1)", asked, full, rules -> rules.trim(-1));
        refused(check, "trim(801)", asked, full, rules -> rules.trim(801));
        refused(check, "fact(no name)", asked, full, rules -> rules.fact(0x4161, 1));
        refused(check, "fact(x, no value)", asked, full, rules -> rules.fact('x', 1000000001));
        refused(check, "fact(new, no value)", asked, full, rules -> rules.fact('w', -1000000001));
        refused(check, "forget(no name)", asked, full, rules -> rules.forget(0x7800));
        refused(check, "run(-1)", asked, full, rules -> rules.run(-1));
        refused(check, "run(10^6 + 1)", asked, full, rules -> rules.run(1000001));
        refused(check, "rule(no name)", asked, full, rules -> rules.rule(0));
        refused(check, "told(4, 0)", asked, full, rules -> rules.told(4, 0));
        refused(check, "told(0, 7)", asked, full, rules -> rules.told(0, 7));
        refused(check, "broken(-1)", asked, full, rules -> rules.broken(-1));
        refused(check, "suggest(4, x, 8)", asked, full, rules -> rules.suggest(4, 'x', 8));
        refused(check, "suggest(0, x, 9)", asked, full, rules -> rules.suggest(0, 'x', 9));
        refused(check, "suggest(0, w, 8)", asked, full, rules -> rules.suggest(0, 'w', 8));
        refused(check, "count(4)", asked, full, rules -> rules.count(4));
        if (full) {
            refused(check, "say(more)", asked, true, rules -> rules.say(0x6161L));
            refused(check, "fact(one more)", asked, true, rules -> rules.fact('w', 1));
        }
        if (!asked) {
            refused(check, "told(0, 0)", false, full, rules -> rules.told(0, 0));
            refused(check, "broken(0)", false, full, rules -> rules.broken(0));
            refused(check, "suggest(0, x, 8)", false, full, rules -> rules.suggest(0, 'x', 8));
        }
    }

    /** Of two objects that are alike one is asked for what it refuses; they must stay alike. */
    private static void refused(Check check, String label, boolean asked, boolean full, WrongCall call) {
        PermitRules rules = used(asked, full);
        boolean thrown = false;
        try {
            call.on(rules);
        } catch (IllegalArgumentException | IllegalStateException e) {
            thrown = true;
        }
        check.due(label + " throws", thrown ? 1 : 0, 1);
        check.due(label + " changes nothing", seen(rules).equals(seen(used(asked, full))) ? 1 : 0, 1);
    }

    private static PermitRules used(boolean asked, boolean full) {
        PermitRules rules = Check.of("a:x<5;b:x<6!y=2@10;c:z<1;d:y/4>x");
        rules.fact('x', 9);
        rules.fact('y', 2);
        for (int i = 2; i < 40 && full; i++) {
            rules.fact(0x6161 + i % 20 + 256 * (i / 20), i);
        }
        if (asked) {
            rules.run(10);
            rules.fact('x', 8);
        }
        Check.say(rules, "e:x<7!2<1;f:y<x@3");
        // from 17 characters to 799, of 800
        for (int i = 0; i < 97 && full; i++) {
            rules.say(0x2020202020202020L);
        }
        if (full) {
            rules.say(0x202020202020L);
        }
        return rules;
    }

    /** All that can be seen of an object: the text, which is read for it, comes last. */
    private static List<String> seen(PermitRules rules) {
        List<String> seen = new ArrayList<>();
        for (int what = 0; what <= 3; what++) {
            seen.add("count " + rules.count(what));
        }
        seen.add("rules " + rules.rule('a') + rules.rule('b') + rules.rule('c') + rules.rule('d') + rules.rule('e'));
        answers(seen, rules);
        for (int i = 0; i < 40; i++) {
            seen.add("fact " + rules.forget(0x6161 + i % 20 + 256 * (i / 20)));
        }
        seen.add("w " + rules.forget('w'));
        seen.add("x " + rules.fact('x', 7));
        seen.add("y " + rules.fact('y', 3));
        seen.add("read " + rules.read());
        rules.run(2);
        answers(seen, rules);
        return seen;
    }

    private static void answers(List<String> seen, PermitRules rules) {
        for (int rule = 0; rule < rules.count(1); rule++) {
            int number = rule;
            for (int what = 0; what <= 6; what++) {
                int asked = what;
                seen.add("told " + answer(() -> rules.told(number, asked)));
            }
            seen.add("broken " + answer(() -> rules.broken(number)));
            seen.add("suggest " + answer(() -> rules.suggest(number, 'x', 8)));
        }
    }

    private static String answer(Check.Call call) {
        try {
            return "" + call.answer();
        } catch (IllegalArgumentException | IllegalStateException e) {
            return e.getClass().getSimpleName();
        }
    }
}
