/** Promise 4: the text is read, or its first wrong word is told. */
public final class Promise04ReadTest {
    public static void main(String[] args) {
        Check check = Check.begin();
        rightTexts(check);
        wrongWords(check);
        textsThatEndTooSoon(check);
        wordLimits(check);
        ruleLimits(check);
        depthLimits(check);
        wordCountLimits(check);
        wrongTextChangesNothing(check);
        rightTextReplacesRules(check);
        check.end();
    }

    private static void rightTexts(Check check) {
        check.right("a:1<2", 1);
        check.right("  a  :  1  <  2  ;  ", 1);
        check.right("a:1<2;b:1<=2;c:1=2;d:1>=2;e:1>2", 5);
        check.right("a:-x<-y", 1);
        check.right("a:-(-x)<(-y)", 1);
        check.right("a:x+y-z*3/4<((2))", 1);
        check.right("a:1<2!3<4!5=6!7>8@9;b:1<2", 2);
        check.right("a:1<2@0", 1);
        check.right("a:1<2@999999999;", 1);
        check.right("a:a<a;b:a<b", 2);
        check.right("a:000000001<2", 1);
    }

    private static void wrongWords(Check check) {
        check.wrong(";", 0);
        check.wrong("a;", 1);
        check.wrong("a a:1<2", 2);
        check.wrong("a::1<2", 2);
        check.wrong("a:1<2;;", 6);
        check.wrong("a:1<2;1:1<2", 6);
        check.wrong("a:<2", 2);
        check.wrong("a:+1<2", 2);
        check.wrong("a:--1<2", 3);
        check.wrong("a:1--1<2", 4);
        check.wrong("a:1*-1<2", 4);
        check.wrong("a:(--1)<2", 4);
        check.wrong("a:1<+2", 4);
        check.wrong("a:1<2<3", 5);
        check.wrong("a:1<2=3", 5);
        check.wrong("a:1< =2", 5);
        check.wrong("a:1> =2", 5);
        check.wrong("a:1<==2", 5);
        check.wrong("a:1=>2", 4);
        check.wrong("a:1<>2", 4);
        check.wrong("a:(1<2)", 4);
        check.wrong("a:1)<2", 3);
        check.wrong("a:1<2)", 5);
        check.wrong("a:()<2", 3);
        check.wrong("a:1(2)<2", 3);
        check.wrong("a:2x<2", 3);
        check.wrong("a:x2<2", 3);
        check.wrong("a:1 2<2", 4);
        check.wrong("a:!1<2", 2);
        check.wrong("a:1!1<2", 3);
        check.wrong("a:1<2!!1<2", 6);
        check.wrong("a:1<2@x", 6);
        check.wrong("a:1<2@-1", 6);
        check.wrong("a:1<2@1!1<2", 7);
        check.wrong("a:1<2@1@2", 7);
        check.wrong("a:1<2@1+1", 7);
        check.wrong("a:1@1<2", 3);
        check.wrong("A:1<2", 0);
        check.wrong("aB:1<2", 1);
        check.wrong("a:1.5<2", 3);
        check.wrong("a:1<2#", 5);
        check.wrong("a:1<2~", 5);
        check.wrong("   ~", 3);
        check.wrong("a:1<2;a:1<2", 6);
        check.wrong("a:1<2;b:1<2; a:1<2", 13);
        check.wrong("a:1<2;a", 6);
        // the first wrong word is told, and not one that stands behind it
        check.wrong("a:1<2 2 ~", 6);
        check.wrong("a:1+*2 1234567890", 4);
        check.wrong("a:1234567890 ~", 2);
    }

    private static void textsThatEndTooSoon(Check check) {
        String whole = "ab : -(x+3)*4 <= 5/y ! 1 = 2 ! z > 3 @ 77";
        check.wrong("", 0);
        check.wrong("   ", 3);
        for (int length = 0; length <= whole.length(); length++) {
            String text = whole.substring(0, length);
            boolean ends = text.matches(".*<= 5\\s*|.*5/y\\s*|.*= 2\\s*|.*> 3\\s*|.*@ 7+");
            if (ends) {
                check.right(text, 1);
            } else {
                check.wrong(text, length);
            }
        }
        check.wrong("a:1<  ", 6);
        check.wrong("a:(1  ", 6);
        check.wrong("a:1<2@ ", 7);
        check.right("a:1<2;   ", 1);
    }

    private static void wordLimits(Check check) {
        check.right("a:123456789<2", 1);
        check.wrong("a:1234567890<2", 2);
        check.wrong("a:0000000001<2", 2);
        check.right("abcdefgh:1<2", 1);
        check.wrong("abcdefghi:1<2", 0);
        check.right("a:abcdefgh<2", 1);
        check.wrong("a:1<abcdefghi", 4);
        check.right("a:1<2@123456789", 1);
        check.wrong("a:1<2@1234567890", 6);
        check.wrong("a:1<" + Check.repeat("9", 700), 4);
        check.wrong(Check.repeat("z", 800), 0);
    }

    private static String rulesOf(int howMany) {
        StringBuilder text = new StringBuilder();
        for (int i = 0; i < howMany; i++) {
            text.append((char) ('a' + i)).append(":1<2;");
        }
        return text.toString();
    }

    private static void ruleLimits(Check check) {
        check.right(rulesOf(12), 12);
        check.right(rulesOf(12) + "  ", 12);
        check.wrong(rulesOf(13), 72);
        check.wrong(rulesOf(12) + "m", 72);
        check.wrong(rulesOf(12) + "a", 72);
        check.wrong(rulesOf(12) + ";", 72);
    }

    private static void depthLimits(Check check) {
        check.right("a:" + Check.repeat("(", 8) + "1" + Check.repeat(")", 8) + "<2", 1);
        check.right("a:1<" + Check.repeat("(-", 8) + "1" + Check.repeat(")", 8), 1);
        check.wrong("a:" + Check.repeat("(", 9) + "1" + Check.repeat(")", 9) + "<2", 10);
        check.wrong("a:" + Check.repeat("(", 9), 10);
        check.wrong("a:" + Check.repeat("(", 8), 10);
        check.wrong("a:" + Check.repeat("(", 8) + "1" + Check.repeat(")", 7) + "<2", 18);
        check.wrong("a:" + Check.repeat("(", 8) + "1" + Check.repeat(")", 9) + "<2", 19);
        // beside one another there may be more
        check.right("a:" + Check.repeat("(1)+", 20) + "1<2", 1);
        check.right("a:((((((((1))))))))+((((((((1))))))))<2", 1);
    }

    private static void wordCountLimits(Check check) {
        // name, :, 1, < and 1 are five words, each +1 two more
        String even = "a:1<1" + Check.repeat("+1", 57);
        check.right(even, 1);
        check.right(even + ";", 1);
        check.wrong(even + "+1", even.length() + 1);
        check.wrong(even + ";b", even.length() + 1);
        check.wrong(even + " ;;", even.length() + 2);
        check.wrong(even + "+ ", even.length() + 2);
        check.wrong(even + "+~", even.length() + 1);
        check.wrong(even + "+ 1;", even.length() + 2);
        // 28 exceptions are the most there can be
        String exceptions = "a:1<1" + Check.repeat("!1<2", 28);
        PermitRules rules = Check.of(exceptions + "@1;");
        check.due("exceptions", rules.count(3), 28);
        rules.run(1);
        check.due("all of them hold", rules.told(0, 0), 2);
    }

    private static void wrongTextChangesNothing(Check check) {
        PermitRules rules = Check.of("a:1<2;b:2<1!1<2!2<1");
        rules.fact('x', 3);
        rules.run(5);
        Check.say(rules, "c:1<2;d:1<2;e:2<1;~");
        check.due("read()", rules.read(), -19);
        check.due("read() again", rules.read(), -19);
        check.due("characters", rules.count(0), 19);
        check.due("rules", rules.count(1), 2);
        check.due("facts", rules.count(2), 1);
        check.due("exceptions", rules.count(3), 2);
        check.due("rule(b)", rules.rule('b'), 1);
        check.due("rule(c)", rules.rule('c'), -1);
        check.due("told(1, 0)", rules.told(1, 0), 1);
        check.due("broken(0)", rules.broken(0), 1);
        check.due("run(5)", rules.run(5), 1);
    }

    private static void rightTextReplacesRules(Check check) {
        PermitRules rules = Check.of("a:1<2;b:2<1!1<2!2<1");
        rules.fact('x', 3);
        rules.run(5);
        Check.say(rules, "c:x<2");
        check.due("read()", rules.read(), 1);
        check.due("characters", rules.count(0), 0);
        check.due("rules", rules.count(1), 1);
        check.due("facts stay", rules.count(2), 1);
        check.due("exceptions", rules.count(3), 0);
        check.due("rule(a)", rules.rule('a'), -1);
        check.due("rule(c)", rules.rule('c'), 0);
        check.state("told(0, 0)", () -> rules.told(0, 0));
        check.state("broken(0)", () -> rules.broken(0));
        check.state("suggest(0, x, 1)", () -> rules.suggest(0, 'x', 1));
        check.due("run(5)", rules.run(5), 1);
        check.due("read() of nothing", rules.read(), -1);
        check.due("told(0, 0)", rules.told(0, 0), 1);
    }
}
