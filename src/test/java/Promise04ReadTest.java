/** Promise 4: the text is read, or its first wrong word is told. */
public final class Promise04ReadTest {
    public static void main(String[] args) {
        Check check = Check.begin();
        rightTexts(check);
        wrongWords(check);
        textsThatEndTooSoon(check);
        wordLimits(check);
        ruleLimits(check);
        depthLimits(check);
        wordCountLimits(check);
        wrongTextChangesNothing(check);
        rightTextReplacesRules(check);
        check.end();
    }

    private static void right(Check check, String text, int want) {
        check.due("read of '" + text + "'", Check.readOf(text), want);
    }

    /** The place at which a text is wrong. */
    private static void wrong(Check check, String text, int place) {
        check.due("read of '" + text + "'", Check.readOf(text), -1 - place);
    }

    private static void rightTexts(Check check) {
        right(check, "a:1<2", 1);
        right(check, "  a  :  1  <  2  ;  ", 1);
        right(check, "a:1<2;b:1<=2;c:1=2;d:1>=2;e:1>2", 5);
        right(check, "a:-x<-y", 1);
        right(check, "a:-(-x)<(-y)", 1);
        right(check, "a:x+y-z*3/4<((2))", 1);
        right(check, "a:1<2!3<4!5=6!7>8@9;b:1<2", 2);
        right(check, "a:1<2@0", 1);
        right(check, "a:1<2@999999999;", 1);
        right(check, "a:a<a;b:a<b", 2);
        right(check, "a:000000001<2", 1);
    }

    private static void wrongWords(Check check) {
        wrong(check, ";", 0);
        wrong(check, "a;", 1);
        wrong(check, "a a:1<2", 2);
        wrong(check, "a::1<2", 2);
        wrong(check, "a:1<2;;", 6);
        wrong(check, "a:1<2;1:1<2", 6);
        wrong(check, "a:<2", 2);
        wrong(check, "a:+1<2", 2);
        wrong(check, "a:--1<2", 3);
        wrong(check, "a:1--1<2", 4);
        wrong(check, "a:1*-1<2", 4);
        wrong(check, "a:(--1)<2", 4);
        wrong(check, "a:1<+2", 4);
        wrong(check, "a:1<2<3", 5);
        wrong(check, "a:1<2=3", 5);
        wrong(check, "a:1< =2", 5);
        wrong(check, "a:1> =2", 5);
        wrong(check, "a:1<==2", 5);
        wrong(check, "a:1=>2", 4);
        wrong(check, "a:1<>2", 4);
        wrong(check, "a:(1<2)", 4);
        wrong(check, "a:1)<2", 3);
        wrong(check, "a:1<2)", 5);
        wrong(check, "a:()<2", 3);
        wrong(check, "a:1(2)<2", 3);
        wrong(check, "a:2x<2", 3);
        wrong(check, "a:x2<2", 3);
        wrong(check, "a:1 2<2", 4);
        wrong(check, "a:!1<2", 2);
        wrong(check, "a:1!1<2", 3);
        wrong(check, "a:1<2!!1<2", 6);
        wrong(check, "a:1<2@x", 6);
        wrong(check, "a:1<2@-1", 6);
        wrong(check, "a:1<2@1!1<2", 7);
        wrong(check, "a:1<2@1@2", 7);
        wrong(check, "a:1<2@1+1", 7);
        wrong(check, "a:1@1<2", 3);
        wrong(check, "A:1<2", 0);
        wrong(check, "aB:1<2", 1);
        wrong(check, "a:1.5<2", 3);
        wrong(check, "a:1<2#", 5);
        wrong(check, "a:1<2~", 5);
        wrong(check, "   ~", 3);
        wrong(check, "a:1<2;a:1<2", 6);
        wrong(check, "a:1<2;b:1<2; a:1<2", 13);
        wrong(check, "a:1<2;a", 6);
        // the first wrong word is told, and not one that stands behind it
        wrong(check, "a:1<2 2 ~", 6);
        wrong(check, "a:1+*2 1234567890", 4);
        wrong(check, "a:1234567890 ~", 2);
    }

    private static void textsThatEndTooSoon(Check check) {
        String whole = "ab : -(x+3)*4 <= 5/y ! 1 = 2 ! z > 3 @ 77";
        wrong(check, "", 0);
        wrong(check, "   ", 3);
        for (int length = 0; length <= whole.length(); length++) {
            String text = whole.substring(0, length);
            boolean ends = text.matches(".*<= 5\\s*|.*5/y\\s*|.*= 2\\s*|.*> 3\\s*|.*@ 7+");
            if (ends) {
                right(check, text, 1);
            } else {
                wrong(check, text, length);
            }
        }
        wrong(check, "a:1<  ", 6);
        wrong(check, "a:(1  ", 6);
        wrong(check, "a:1<2@ ", 7);
        right(check, "a:1<2;   ", 1);
    }

    private static void wordLimits(Check check) {
        right(check, "a:123456789<2", 1);
        wrong(check, "a:1234567890<2", 2);
        wrong(check, "a:0000000001<2", 2);
        right(check, "abcdefgh:1<2", 1);
        wrong(check, "abcdefghi:1<2", 0);
        right(check, "a:abcdefgh<2", 1);
        wrong(check, "a:1<abcdefghi", 4);
        right(check, "a:1<2@123456789", 1);
        wrong(check, "a:1<2@1234567890", 6);
        wrong(check, "a:1<" + Check.repeat("9", 700), 4);
        wrong(check, Check.repeat("z", 800), 0);
    }

    private static String rulesOf(int howMany) {
        StringBuilder text = new StringBuilder();
        for (int i = 0; i < howMany; i++) {
            text.append((char) ('a' + i)).append(":1<2;");
        }
        return text.toString();
    }

    private static void ruleLimits(Check check) {
        right(check, rulesOf(12), 12);
        right(check, rulesOf(12) + "  ", 12);
        wrong(check, rulesOf(13), 72);
        wrong(check, rulesOf(12) + "m", 72);
        wrong(check, rulesOf(12) + "a", 72);
        wrong(check, rulesOf(12) + ";", 72);
    }

    private static void depthLimits(Check check) {
        right(check, "a:" + Check.repeat("(", 8) + "1" + Check.repeat(")", 8) + "<2", 1);
        right(check, "a:1<" + Check.repeat("(-", 8) + "1" + Check.repeat(")", 8), 1);
        wrong(check, "a:" + Check.repeat("(", 9) + "1" + Check.repeat(")", 9) + "<2", 10);
        wrong(check, "a:" + Check.repeat("(", 9), 10);
        wrong(check, "a:" + Check.repeat("(", 8), 10);
        wrong(check, "a:" + Check.repeat("(", 8) + "1" + Check.repeat(")", 7) + "<2", 18);
        wrong(check, "a:" + Check.repeat("(", 8) + "1" + Check.repeat(")", 9) + "<2", 19);
        // beside one another there may be more
        right(check, "a:" + Check.repeat("(1)+", 20) + "1<2", 1);
        right(check, "a:((((((((1))))))))+((((((((1))))))))<2", 1);
    }

    private static void wordCountLimits(Check check) {
        // name, :, 1, < and 1 are five words, each +1 two more
        String even = "a:1<1" + Check.repeat("+1", 57);
        right(check, even, 1);
        right(check, even + ";", 1);
        wrong(check, even + "+1", even.length() + 1);
        wrong(check, even + ";b", even.length() + 1);
        wrong(check, even + " ;;", even.length() + 2);
        wrong(check, even + "+ ", even.length() + 2);
        wrong(check, even + "+~", even.length() + 1);
        wrong(check, even + "+ 1;", even.length() + 2);
        // 28 exceptions are the most there can be
        String exceptions = "a:1<1" + Check.repeat("!1<2", 28);
        PermitRules rules = Check.of(exceptions + "@1;");
        check.due("exceptions", rules.count(3), 28);
        rules.run(1);
        check.due("all of them hold", rules.told(0, 0), 2);
    }

    private static void wrongTextChangesNothing(Check check) {
        PermitRules rules = Check.of("a:1<2;b:2<1!1<2!2<1");
        rules.fact('x', 3);
        rules.run(5);
        Check.say(rules, "c:1<2;d:1<2;e:2<1;~");
        check.due("read()", rules.read(), -19);
        check.due("read() again", rules.read(), -19);
        check.due("characters", rules.count(0), 19);
        check.due("rules", rules.count(1), 2);
        check.due("facts", rules.count(2), 1);
        check.due("exceptions", rules.count(3), 2);
        check.due("rule(b)", rules.rule('b'), 1);
        check.due("rule(c)", rules.rule('c'), -1);
        check.due("told(1, 0)", rules.told(1, 0), 1);
        check.due("broken(0)", rules.broken(0), 1);
        check.due("run(5)", rules.run(5), 1);
    }

    private static void rightTextReplacesRules(Check check) {
        PermitRules rules = Check.of("a:1<2;b:2<1!1<2!2<1");
        rules.fact('x', 3);
        rules.run(5);
        Check.say(rules, "c:x<2");
        check.due("read()", rules.read(), 1);
        check.due("characters", rules.count(0), 0);
        check.due("rules", rules.count(1), 1);
        check.due("facts stay", rules.count(2), 1);
        check.due("exceptions", rules.count(3), 0);
        check.due("rule(a)", rules.rule('a'), -1);
        check.due("rule(c)", rules.rule('c'), 0);
        check.state("told(0, 0)", () -> rules.told(0, 0));
        check.state("broken(0)", () -> rules.broken(0));
        check.state("suggest(0, x, 1)", () -> rules.suggest(0, 'x', 1));
        check.due("run(5)", rules.run(5), 1);
        check.due("read() of nothing", rules.read(), -1);
        check.due("told(0, 0)", rules.told(0, 0), 1);
    }
}
