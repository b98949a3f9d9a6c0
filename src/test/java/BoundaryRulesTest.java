/** The boundary cases of "Terms": what the text says, and which word is wrong. Each method tests one sentence. */
public final class BoundaryRulesTest {
    /** 119 words: a, :, 1, < and 1 are five, and each +1 is two. */
    private static final String LONG = "a:1<1" + Check.repeat("+1", 57);

    public static void main(String[] args) {
        Check check = Check.begin();
        oneRuleOrMore(check);
        exceptionsAndDay(check);
        clause(check);
        side(check);
        term(check);
        factor(check);
        twelveRules(check);
        thirteenthRule(check);
        namesDiffer(check);
        nameThatWasThere(check);
        words(check);
        wordTooMany(check);
        parentheses(check);
        ninthParenthesis(check);
        cannotGoOn(check);
        atItsFirstCharacter(check);
        atTheTextsEnd(check);
        theFirstIsTold(check);
        check.end();
    }

    private static String rulesOf(int howMany) {
        StringBuilder text = new StringBuilder();
        for (int i = 0; i < howMany; i++) {
            text.append((char) ('a' + i)).append(":1<2;");
        }
        return text.toString();
    }

    /** A number inside of parentheses, one in the other. */
    private static String inside(int depth) {
        return Check.repeat("(", depth) + "1" + Check.repeat(")", depth);
    }

    private static void oneRuleOrMore(Check check) {
        check.sentence("RULES: one RULE, and more of them, with ; between, perhaps a ; at the end.");
        check.wrong("", 0);
        check.wrong(";", 0);
        check.right("a:1<2", 1);
        check.right("a:1<2;", 1);
        check.right("a:1<2;b:1<2", 2);
        check.right("a:1<2;b:1<2;", 2);
        check.wrong("a:1<2;;", 6);
        check.wrong("a:1<2;;b:1<2", 6);
        check.wrong(";a:1<2", 0);
        check.wrong("a:1<2 b:1<2", 6);
        check.wrong("a:1<2,b:1<2", 5);
    }

    private static void exceptionsAndDay(Check check) {
        check.sentence("RULE: NAME : CLAUSE, then EXCEPTIONS, any number of them: ! CLAUSE, then perhaps @ NUMBER, "
            + "the DAY from which it counts (else 0).");
        for (int exceptions = 0; exceptions <= 28; exceptions++) {
            PermitRules rules = Check.of("a:1<2" + Check.repeat("!1<2", exceptions) + "@7");
            check.due("exceptions", rules.count(3), exceptions);
        }
        check.right("a:1<2@0", 1);
        check.right("a:1<2@7;b:1<2@8", 2);
        check.wrong("a:1<2@7!1<2", 7);
        check.wrong("a:1<2@7@7", 7);
        check.wrong("a:1<2@-7", 6);
        check.wrong("a:1<2@x", 6);
        check.wrong("a:1<2@(7)", 6);
        check.wrong("a:1<2@7+1", 7);
        check.wrong("a:1<2!", 6);
        check.wrong("a:1<2!!1<2", 6);
        check.wrong("a:1<2!1", 7);
        check.wrong("a:!1<2", 2);
        check.wrong("a@7:1<2", 1);
        check.wrong("7:1<2", 0);
        check.wrong("(a):1<2", 0);
        check.wrong("a 1<2", 2);
    }

    private static void clause(Check check) {
        check.sentence("CLAUSE: SIDE SIGN SIDE, the sign being < <= = >= or >.");
        String[] signs = {"<", "<=", "=", ">=", ">"};
        for (String sign : signs) {
            check.right("a:1" + sign + "2", 1);
            check.wrong("a:" + sign + "2", 2);
            check.wrong("a:1" + sign, 3 + sign.length());
            check.wrong("a:1" + sign + "2" + sign + "3", 4 + sign.length());
        }
        check.wrong("a:1", 3);
        check.wrong("a:1;", 3);
        check.wrong("a:1:2", 3);
        check.wrong("a:(1<2)", 4);
    }

    private static void side(Check check) {
        check.sentence("SIDE: perhaps a -, a TERM, and more of them, with + or - between "
            + "(the first - changes the first term's sign).");
        Asked.side(check, "-7", -7, 1);
        Asked.side(check, "-0", 0, 1);
        Asked.side(check, "-2*3+10", 4, 1);
        Asked.side(check, "-2/4-1", -3, 2);
        Asked.side(check, "-7-7", -14, 1);
        Asked.side(check, "-(7-9)", 2, 1);
        Asked.side(check, "(-7)", -7, 1);
        check.wrong("a:--1<2", 3);
        check.wrong("a:+1<2", 2);
        check.wrong("a:1+-1<2", 4);
        check.wrong("a:1--1<2", 4);
        check.wrong("a:1++1<2", 4);
        check.wrong("a:-<2", 3);
        check.wrong("a:1+<2", 4);
        check.wrong("a:1<+2", 4);
    }

    private static void term(Check check) {
        check.sentence("TERM: FACTORS with * or / between.");
        Asked.side(check, "2*3/4", 3, 2);
        check.wrong("a:*2<3", 2);
        check.wrong("a:/2<3", 2);
        check.wrong("a:1*<3", 4);
        check.wrong("a:1*-1<3", 4);
        check.wrong("a:1/-1<3", 4);
        check.wrong("a:1*/2<3", 4);
        check.wrong("a:1 1<3", 4);
        check.wrong("a:1(1)<3", 3);
        check.wrong("a:(1)(1)<3", 5);
        check.wrong("a:(1)1<3", 5);
    }

    private static void factor(Check check) {
        check.sentence("FACTOR: a NUMBER, a NAME (of a FACT), or ( SIDE ).");
        check.right("a:1<a", 1);
        check.right("a:(-1+2*(3))<(a)", 1);
        check.wrong("a:()<1", 3);
        check.wrong("a:(1<1", 4);
        check.wrong("a:1)<1", 3);
        check.wrong("a:(1;", 4);
        check.wrong("a:(a:1)<1", 4);
        check.wrong("a:(1@2)<1", 4);
        check.wrong("a:1<2)", 5);
        // a rule's name is no fact
        Asked.open(check, "a:1<a", Asked.MISSING);
    }

    private static void twelveRules(Check check) {
        check.sentence("There are 1 .. 12 rules");
        check.wrong("", 0);
        for (int howMany = 1; howMany <= 12; howMany++) {
            check.right(rulesOf(howMany), howMany);
        }
        check.due("13 rules are not read", Check.readOf(rulesOf(13)) < 0 ? 1 : 0, 1);
        PermitRules rules = Check.of(rulesOf(12));
        check.due("the last one's number", rules.rule('l'), 11);
        rules.run(0);
        check.due("the last one holds", rules.told(11, 0), Asked.HOLDS);
    }

    private static void thirteenthRule(Check check) {
        check.sentence("the 13th rule's name");
        check.wrong(rulesOf(13), 72);
        check.wrong(rulesOf(12) + "  m", 74);
        check.wrong(rulesOf(12) + "m:", 72);
        check.wrong(rulesOf(12) + "a:1<2", 72);
        check.wrong(rulesOf(14), 72);
        // an end there is none
        check.right(rulesOf(12) + "  ", 12);
    }

    private static void namesDiffer(Check check) {
        check.sentence("all names of which differ");
        check.due("names that are alike", Check.readOf("a:1<2;a:1<2") < 0 ? 1 : 0, 1);
        check.right("a:1<2;aa:1<2;ab:1<2;ba:1<2", 4);
        check.right("abcdefgh:1<2;abcdefgi:1<2;bbcdefgh:1<2;abcdefg:1<2", 4);
        // facts may have a rule's name, and the rules before may have had it
        check.right("a:a<b;b:a<b", 2);
        PermitRules rules = Check.of("a:1<2");
        Check.say(rules, "a:1<2");
        check.due("read() of the same once more", rules.read(), 1);
    }

    private static void nameThatWasThere(Check check) {
        check.sentence("a rule's name that was there");
        check.wrong("a:1<2;a:1<2", 6);
        check.wrong("a:1<2;b:1<2;  a:1<2", 14);
        check.wrong("a:1<2;b:1<2;  b:1<2", 14);
        check.wrong("a:1<2;a", 6);
        check.wrong("abcdefgh:1<2;abcdefgh:1<2", 13);
        check.wrong(rulesOf(11) + "k:1<2", 66);
    }

    private static void words(Check check) {
        check.sentence("120 words at most");
        check.right(LONG, 1);
        check.right(LONG + ";", 1);
        check.right(LONG + " ;  ", 1);
        check.due("121 words", Check.readOf(LONG + "+1") < 0 ? 1 : 0, 1);
        PermitRules rules = Check.of("a:1<-1" + Check.repeat("+1", 56) + "@5");
        rules.run(4);
        check.due("the last of 120 words is the day", rules.told(0, 0), Asked.LATER);
        rules.run(5);
        check.due("all 120 words count", rules.told(0, 3), 55);
    }

    private static void wordTooMany(Check check) {
        check.sentence("the 121st word");
        check.wrong(LONG + "+1", LONG.length() + 1);
        check.wrong(LONG + ";b:1<2", LONG.length() + 1);
        check.wrong(LONG + "+ 1;", LONG.length() + 2);
        check.wrong(LONG + "+~", LONG.length() + 1);
        // 120 words, and more must come
        check.wrong(LONG + "+", LONG.length() + 1);
        check.wrong(LONG + "+ ", LONG.length() + 2);
        String day = "a:1<-1" + Check.repeat("+1", 56) + "@5";
        check.right(day, 1);
        check.wrong(day + ";", day.length());
    }

    private static void parentheses(Check check) {
        check.sentence("8 parentheses one in the other");
        check.right("a:" + inside(8) + "<" + inside(8), 1);
        check.right("a:1<" + Check.repeat("(-", 8) + "1" + Check.repeat(")", 8), 1);
        check.due("9 of them", Check.readOf("a:" + inside(9) + "<1") < 0 ? 1 : 0, 1);
        // they count one in the other alone
        check.right("a:" + inside(8) + "+" + inside(8) + "*" + inside(8) + "<1", 1);
        check.right("a:" + Check.repeat("(1)+", 20) + "1<2", 1);
        check.right("a:(1+(((((((1)-1)-1)-1)-1)-1)-1)-1)<(1)", 1);
        // on each level a sum and a product wait: from 1-2*3 on each is 1 less the double of the one inside
        long want = -5;
        for (int i = 0; i < 8; i++) {
            want = 1 - 2 * want;
        }
        Asked.side(check, Check.repeat("1-2*(", 8) + "1-2*3" + Check.repeat(")", 8), want, 1);
    }

    private static void ninthParenthesis(Check check) {
        check.sentence("the 9th parenthesis");
        check.wrong("a:" + inside(9) + "<1", 10);
        check.wrong("a:1<" + inside(9), 12);
        check.wrong("a:1<2!" + inside(9) + "<1", 14);
        check.wrong("a:((((((((1+(1)))))))))<1", 12);
        check.wrong("a:(((((((( ( 1", 11);
        check.wrong("a:(1+((((((((1)-1)-1)-1)-1)-1)-1)-1))<1", 12);
    }

    private static void cannotGoOn(Check check) {
        check.sentence("A WORD IS WRONG if the text cannot go on with it as said so far");
        String[] begins = {"", "a", "a:", "a:-", "a:1", "a:1+", "a:1*", "a:(", "a:(1", "a:(1)", "a:1<", "a:1<2",
            "a:1<2!", "a:1<2!3", "a:1<2@", "a:1<2@3", "b:1<2;"};
        String[] words = {"+", "-", "*", "/", "(", ")", "<", "<=", "=", ">=", ">", ":", ";", "!", "@", "1", "a"};
        // with which of these words each beginning can go on
        String[] going = {"a", ":", "-(1a", "(1a", "+-*/<l=g>", "(1a", "(1a", "-(1a", "+-*/)", "+-*/<l=g>", "-(1a",
            "+-*/;!@", "-(1a", "+-*/<l=g>", "1", ";", "a"};
        String letters = "+-*/()<l=g>:;!@1a";
        for (int i = 0; i < begins.length; i++) {
            for (int j = 0; j < words.length; j++) {
                String text = begins[i] + " " + words[j];
                boolean goes = going[i].indexOf(letters.charAt(j)) >= 0;
                // where the word is right, the ~ behind it is the first wrong one
                check.wrong(text + "~", goes ? text.length() : begins[i].length() + 1);
            }
        }
    }

    private static void atItsFirstCharacter(Check check) {
        check.sentence("at its first character");
        check.wrong("  12:1<2", 2);
        check.wrong("a:1<2; 34:1<2", 7);
        check.wrong("a: <= 2", 3);
        check.wrong("a:1 bcd<2", 4);
        check.wrong("a:1<2   abc", 8);
        check.wrong("a:12345678901234", 2);
    }

    private static void atTheTextsEnd(Check check) {
        check.sentence("or at the text's end, if more must come");
        String[] begins = {"", "a", "a:", "a:-", "a:1", "a:1+", "a:1*", "a:(", "a:(1", "a:(1)", "a:1<", "a:1<-",
            "a:1<(2", "a:1<2!", "a:1<2!3", "a:1<2!3<", "a:1<2@", "a:1<2;b", "a:1<2;b:"};
        for (String text : begins) {
            check.wrong(text, text.length());
            check.wrong(text + "   ", text.length() + 3);
        }
        check.right("a:1<2", 1);
        check.right("a:1<2   ", 1);
        check.right("a:1<2;   ", 1);
        check.right("a:1<2!3<4", 1);
        check.right("a:1<2@3 ", 1);
    }

    private static void theFirstIsTold(Check check) {
        check.sentence("The first wrong one is told.");
        check.wrong("a:1 2 ~ 1234567890", 4);
        check.wrong("a:1234567890 2 ~", 2);
        check.wrong("a:~ abcdefghi", 2);
        check.wrong("a:1<2;a:1<2;~", 6);
        check.wrong("a:1<2;a:~", 6);
        check.wrong(rulesOf(13) + "~", 72);
        check.wrong("a:" + inside(9) + "~", 10);
        check.wrong("a:1<2 2" + Check.repeat(" 1", 200), 6);
        check.wrong("~" + Check.repeat(" 1", 200), 0);
        check.wrong(LONG + "+1~", LONG.length() + 1);
        check.wrong(LONG + "~+1", LONG.length());
    }
}
