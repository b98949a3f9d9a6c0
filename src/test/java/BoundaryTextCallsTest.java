/** The boundary cases of promises 1 to 4 and 12: a new object, say, trim, read, count. Each method tests one sentence. */
public final class BoundaryTextCallsTest {
    private static final long EIGHT_BLANKS = 0x2020202020202020L;

    public static void main(String[] args) {
        Check check = Check.begin();
        constants(check);
        newObject(check);
        fiveHundredCalls(check);
        upToEight(check);
        highestFirst(check);
        zerosLeftOut(check);
        wrongBytes(check);
        moreThan800(check);
        trims(check);
        trimRefuses(check);
        readCounts(check);
        readRules(check);
        readEmpties(check);
        readRefuses(check);
        readRefusalChangesNothing(check);
        counts(check);
        countRefuses(check);
        check.end();
    }

    /** An object whose text has so many characters, all blanks. */
    private static PermitRules blank(int characters) {
        PermitRules rules = new PermitRules();
        Check.say(rules, Check.repeat(" ", characters));
        return rules;
    }

    private static void constants(Check check) {
        check.sentence("`NONE = -1`: There is none.");
        check.due("NONE", PermitRules.NONE, -1);
        check.sentence("`NO = 1000000000000L`: No value.");
        check.due("NO", PermitRules.NO, 1000000000000L);
    }

    private static void newObject(Check check) {
        check.sentence("An empty text, no rules, no facts.");
        PermitRules rules = new PermitRules();
        check.due("characters", rules.count(0), 0);
        check.due("rules", rules.count(1), 0);
        check.due("facts", rules.count(2), 0);
        check.due("exceptions", rules.count(3), 0);
        check.due("trim(0)", rules.trim(0), 0);
        check.argument("trim(1)", () -> rules.trim(1));
        check.due("read()", rules.read(), -1);
        check.due("rule(a)", rules.rule('a'), PermitRules.NONE);
        check.due("forget(a)", rules.forget('a'), PermitRules.NO);
        check.argument("told(0, 0)", () -> rules.told(0, 0));
        check.state("broken(0)", () -> rules.broken(0));
        check.due("run(0)", rules.run(0), 0);
        check.due("broken(0) behind a run", rules.broken(0), PermitRules.NONE);
        check.argument("told(0, 0) behind a run", () -> rules.told(0, 0));
    }

    private static void fiveHundredCalls(Check check) {
        check.sentence("An object is used for at most 512 calls after it has been made");
        PermitRules rules = Check.of("a:x<y;b:x=y");
        rules.fact('x', 0);
        rules.fact('y', 100);
        int calls = 5;
        for (int i = 1; calls < 509; i++) {
            check.due("fact(x, " + i + ")", rules.fact('x', i), i - 1);
            check.due("run(" + i + ")", rules.run(i), i <= 100 ? 1 : 2);
            check.due("told(0, 1)", rules.told(0, 1), i);
            calls += 3;
        }
        check.due("calls so far", calls, 509);
        check.due("call 510", rules.count(1), 2);
        check.due("call 511", rules.forget('x'), 168);
        check.due("call 512", rules.run(0), 0);
    }

    private static void upToEight(Check check) {
        check.sentence("Up to eight characters come behind the text");
        PermitRules rules = new PermitRules();
        int sum = 0;
        long word = 0;
        for (int characters = 0; characters <= 8; characters++) {
            sum += characters;
            check.due("say of " + characters, rules.say(word), sum);
            word = (word << 8) | ' ';
        }
        check.due("characters", rules.count(0), 36);
    }

    private static void highestFirst(Check check) {
        check.sentence("the bytes of word, the highest first");
        PermitRules rules = new PermitRules();
        rules.say(0x61623A3132333C34L);
        rules.say(0x3536L);
        check.due("read() of 'ab:123<456'", rules.read(), 1);
        rules.run(0);
        check.due("rule(ab)", rules.rule(0x6162), 0);
        check.due("left", rules.told(0, 1), 123);
        check.due("right", rules.told(0, 3), 456);
    }

    private static void zerosLeftOut(Check check) {
        check.sentence("those that are 0 left out: how many characters it has.");
        PermitRules rules = new PermitRules();
        check.due("say(0)", rules.say(0), 0);
        check.due("say of one, zeros behind", rules.say(0x6100000000000000L), 1);
        check.due("say of one, zeros around", rules.say(0x0000003A00000000L), 2);
        check.due("say of four, zeros between", rules.say(0x3100320033003C00L), 6);
        check.due("say of one", rules.say('9'), 7);
        check.due("read() of 'a:123<9'", rules.read(), 1);
        rules.run(0);
        check.due("left", rules.told(0, 1), 123);
    }

    private static void wrongBytes(Check check) {
        check.sentence("Illegal argument: a byte is none of 0, 32 .. 126");
        PermitRules rules = blank(3);
        for (int shift = 0; shift < 64; shift += 8) {
            long others = EIGHT_BLANKS & ~(255L << shift);
            for (int octet : new int[] {1, 31, 127, 128, 160, 254, 255}) {
                long word = others | ((long) octet << shift);
                long alone = (long) octet << shift;
                check.argument("say(" + Long.toHexString(word) + ")", () -> rules.say(word));
                check.argument("say(" + Long.toHexString(alone) + ")", () -> rules.say(alone));
            }
        }
        check.due("characters", rules.count(0), 3);
        for (int shift = 0; shift < 64; shift += 8) {
            check.due("say of 32, 126, 0 at " + shift, rules.say(32L << shift), 4);
            check.due("say of 32, 126, 0 at " + shift, rules.say(126L << shift), 5);
            check.due("trim(2)", rules.trim(2), 3);
        }
    }

    private static void moreThan800(Check check) {
        check.sentence("illegal state: there would be more than 800.");
        long word = 0;
        for (int characters = 0; characters <= 8; characters++) {
            long said = word;
            PermitRules fits = blank(800 - characters);
            check.due("say of " + characters + " up to 800", fits.say(said), 800);
            PermitRules rules = blank(801 - Math.max(characters, 1));
            if (characters > 0) {
                check.state("say of " + characters + " up to 801", () -> rules.say(said));
                check.due("characters", rules.count(0), 801 - characters);
            }
            word = (word << 8) | ' ';
        }
        PermitRules full = blank(800);
        check.due("say(0) of a full text", full.say(0), 800);
        check.state("say of one more", () -> full.say(' '));
        check.due("trim(1)", full.trim(1), 799);
        check.due("say of one more then", full.say('a'), 800);
        check.due("it is the last one", full.read(), -801);
        // zeros are no characters
        check.due("trim(1)", full.trim(1), 799);
        check.due("say of one with zeros", full.say(0x0000200000000000L), 800);
    }

    private static void trims(Check check) {
        check.sentence("The last n characters of the text go: how many it has.");
        PermitRules rules = new PermitRules();
        Check.say(rules, "a:12<3;b:4");
        check.due("trim(0)", rules.trim(0), 10);
        check.due("trim(3)", rules.trim(3), 7);
        check.due("trim(1)", rules.trim(1), 6);
        check.due("read() of what is left", rules.read(), 1);
        rules.run(0);
        check.due("left", rules.told(0, 1), 12);
        check.due("right", rules.told(0, 3), 3);
        PermitRules full = blank(800);
        check.due("trim(800)", full.trim(800), 0);
        check.due("trim(0)", full.trim(0), 0);
    }

    private static void trimRefuses(Check check) {
        check.sentence("Illegal argument: n is below 0, or more than there are.");
        PermitRules rules = new PermitRules();
        check.argument("trim(1) of no text", () -> rules.trim(1));
        check.argument("trim(-1) of no text", () -> rules.trim(-1));
        Check.say(rules, "a:1<2");
        check.argument("trim(-1)", () -> rules.trim(-1));
        check.argument("trim(6)", () -> rules.trim(6));
        check.argument("trim(least)", () -> rules.trim(Integer.MIN_VALUE));
        check.argument("trim(greatest)", () -> rules.trim(Integer.MAX_VALUE));
        check.due("characters", rules.count(0), 5);
        check.due("trim(5)", rules.trim(5), 0);
        check.argument("trim(1) then", () -> rules.trim(1));
        PermitRules full = blank(800);
        check.argument("trim(801)", () -> full.trim(801));
        check.due("characters", full.count(0), 800);
    }

    private static void readCounts(Check check) {
        check.sentence("The text is read: how many rules it says");
        check.right("a:1<2", 1);
        check.right("a:1<2!3<4!5<6@7;", 1);
        check.right("a:1<2;b:1<2;c:1<2;d:1<2;e:1<2;f:1<2;g:1<2;h:1<2;i:1<2;j:1<2;k:1<2;l:1<2;", 12);
    }

    private static void readRules(Check check) {
        check.sentence("which are the rules then (none is asked yet)");
        PermitRules rules = Check.of("a:2<1;b:2<1!1<2;c:2<1");
        rules.fact('x', 1);
        rules.run(3);
        Check.say(rules, "d:x<2!1<2!1<2@9");
        check.due("what is told stays until then", rules.told(2, 0), Asked.BROKEN);
        check.due("read()", rules.read(), 1);
        check.due("rules", rules.count(1), 1);
        check.due("exceptions", rules.count(3), 2);
        check.due("facts stay", rules.count(2), 1);
        check.due("rule(a)", rules.rule('a'), PermitRules.NONE);
        check.due("rule(d)", rules.rule('d'), 0);
        check.state("told(0, 0)", () -> rules.told(0, 0));
        check.argument("told(1, 0)", () -> rules.told(1, 0));
        check.state("broken(0)", () -> rules.broken(0));
        check.state("suggest(0, x, 1)", () -> rules.suggest(0, 'x', 1));
        rules.run(9);
        Asked.row(check, rules, 0, Asked.HOLDS, 1, 1, 2, 1, 0, 0);
        check.due("broken(0)", rules.broken(0), PermitRules.NONE);
        oneTextAfterTheOther(check);
    }

    /** Of the rules before, and of texts that were refused, nothing may be left. */
    private static void oneTextAfterTheOther(Check check) {
        PermitRules rules = new PermitRules();
        for (int i = 0; i < 9; i++) {
            int exceptions = i * 5 % 7;
            Check.say(rules, "b:9<8!9<8!9<8;c:9<8!9<8;~");
            check.due("read() of a wrong text", rules.read(), -25);
            check.due("trim(25)", rules.trim(25), 0);
            Check.say(rules, "a:" + i + "+1<1" + Check.repeat("!1<2", exceptions) + ";d:3<" + i);
            check.due("read()", rules.read(), 2);
            check.due("exceptions", rules.count(3), exceptions);
            rules.run(0);
            Asked.row(check, rules, 0, exceptions > 0 ? Asked.EXCEPTED : Asked.BROKEN, i + 1, 1, 1, 1, 0, 0);
            Asked.row(check, rules, 1, i > 3 ? Asked.HOLDS : Asked.BROKEN, 3, 1, i, 1, 0, 0);
        }
    }

    private static void readEmpties(Check check) {
        check.sentence("and it is empty");
        PermitRules rules = new PermitRules();
        Check.say(rules, "a:1<2;  ");
        check.due("read()", rules.read(), 1);
        check.due("characters", rules.count(0), 0);
        check.argument("trim(1)", () -> rules.trim(1));
        check.due("read() of nothing", rules.read(), -1);
        check.due("say(a)", rules.say('a'), 1);
        // a full text has room for 800 again
        PermitRules full = blank(795);
        Check.say(full, "a:1<2");
        check.due("read() of a full text", full.read(), 1);
        Check.say(full, Check.repeat(" ", 800));
        check.due("characters", full.count(0), 800);
    }

    private static void readRefuses(Check check) {
        check.sentence("or -1 less the place of the first wrong word");
        check.due("read() of no text", new PermitRules().read(), -1);
        check.due("read() of 800 blanks", blank(800).read(), -801);
        check.due("read() of '~'", Check.readOf("~"), -1);
        check.due("read() of ' ~'", Check.readOf(" ~"), -2);
        check.due("read() of 'a:1<2~'", Check.readOf("a:1<2~"), -6);
        check.due("read() of 799 blanks and ~", Check.readOf(Check.repeat(" ", 799) + "~"), -800);
    }

    private static void readRefusalChangesNothing(Check check) {
        check.sentence("changing nothing.");
        PermitRules rules = Check.of("a:x<5@10;b:2<1!x=9!2<1");
        rules.fact('x', 9);
        rules.run(10);
        Check.say(rules, "c:1<2!1<2!1<2!1<2;d:1<2@20;e:1<2;a:~");
        for (int i = 0; i < 3; i++) {
            check.due("read()", rules.read(), -36);
            check.due("characters", rules.count(0), 36);
        }
        check.due("rules", rules.count(1), 2);
        check.due("facts", rules.count(2), 1);
        check.due("exceptions", rules.count(3), 2);
        check.due("rule(b)", rules.rule('b'), 1);
        check.due("rule(c)", rules.rule('c'), PermitRules.NONE);
        Asked.row(check, rules, 0, Asked.BROKEN, 9, 1, 5, 1, 0, 0);
        Asked.row(check, rules, 1, Asked.BROKEN, 2, 1, 1, 1, 0, 0);
        check.due("broken(1)", rules.broken(1), 1);
        check.due("suggest(0, x, 8) on day 10", rules.suggest(0, 'x', 8), 4);
        check.due("run(9)", rules.run(9), 1);
        // the text is there as it was: without its last rule it is right
        rules.trim(3);
        check.due("read()", rules.read(), 3);
        check.due("rule(e)", rules.rule('e'), 2);
        check.due("exceptions", rules.count(3), 3);
        rules.run(20);
        Asked.row(check, rules, 2, Asked.HOLDS, 1, 1, 2, 1, 0, 0);
        unaskedStayUnasked(check);
    }

    private static void unaskedStayUnasked(Check check) {
        PermitRules rules = Check.of("a:1<2");
        check.due("read() of nothing", rules.read(), -1);
        check.state("told(0, 0)", () -> rules.told(0, 0));
        check.state("broken(0)", () -> rules.broken(0));
        check.due("rules", rules.count(1), 1);
    }

    private static void counts(Check check) {
        check.sentence("How many there are: what = 0 characters of the text, 1 rules, 2 facts, 3 exceptions of all rules.");
        PermitRules rules = Check.of("a:1<2" + Check.repeat("!1<2", 28));
        check.due("exceptions, most", rules.count(3), 28);
        Check.say(rules, "a:1<2!1<2;b:1<2;c:1<2!1<2!1<2;d:1<2;e:1<2;f:1<2;g:1<2;h:1<2;i:1<2;j:1<2;k:1<2;l:1<2");
        rules.read();
        check.due("rules, most", rules.count(1), 12);
        check.due("exceptions of all", rules.count(3), 3);
        for (int i = 0; i < 40; i++) {
            check.due("facts", rules.count(2), i);
            rules.fact(0x6161 + i % 20 + 256 * (i / 20), i);
        }
        check.due("facts, most", rules.count(2), 40);
        rules.fact(0x6161, 5);
        check.due("facts, one of them changed", rules.count(2), 40);
        rules.forget(0x6161);
        check.due("facts, one forgotten", rules.count(2), 39);
        check.due("characters", rules.count(0), 0);
        Check.say(rules, Check.repeat("a", 800));
        check.due("characters, most", rules.count(0), 800);
    }

    private static void countRefuses(Check check) {
        check.sentence("Illegal argument.");
        PermitRules rules = new PermitRules();
        for (int what : new int[] {-1, 4, Integer.MIN_VALUE, Integer.MAX_VALUE}) {
            check.argument("count(" + what + ")", () -> rules.count(what));
        }
        check.due("count(0)", rules.count(0), 0);
        check.due("count(3)", rules.count(3), 0);
    }
}
