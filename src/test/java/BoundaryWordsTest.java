/** The boundary cases of "Terms": the text and its words. Each method tests one sentence. */
public final class BoundaryWordsTest {
    public static void main(String[] args) {
        Check check = Check.begin();
        charactersOfTheText(check);
        lengthOfTheText(check);
        blanks(check);
        numbers(check);
        names(check);
        asLongAsCanBe(check);
        signs(check);
        equalsBehind(check);
        characterInNoWord(check);
        tooLong(check);
        check.end();
    }

    /** A text of 800 characters: blanks, and what is given at its end. */
    private static String filled(String end) {
        return Check.repeat(" ", 800 - end.length()) + end;
    }

    private static void charactersOfTheText(Check check) {
        check.sentence("THE TEXT has characters 32 .. 126");
        for (int octet = 1; octet <= 255; octet++) {
            PermitRules rules = new PermitRules();
            int character = octet;
            if (octet >= 32 && octet <= 126) {
                check.due("say(" + octet + ")", rules.say(octet), 1);
            } else {
                check.argument("say(" + octet + ")", () -> rules.say(character));
                check.due("characters behind it", rules.count(0), 0);
            }
        }
    }

    private static void lengthOfTheText(Check check) {
        check.sentence("800 at most");
        PermitRules rules = new PermitRules();
        Check.say(rules, filled("a:1<23"));
        check.due("characters", rules.count(0), 800);
        check.state("the 801st", () -> rules.say('4'));
        check.due("read() of a full text", rules.read(), 1);
        rules.run(0);
        check.due("its last word is whole", rules.told(0, 3), 23);
        check.right(filled("a:1<b"), 1);
        check.right(filled("a:1<(2)"), 1);
        check.right(filled("a:1<2;"), 1);
        check.wrong(filled(""), 800);
        check.wrong(filled("a:1"), 800);
        check.wrong(filled("a:1<"), 800);
        check.wrong(filled("a:1<="), 800);
        check.wrong(filled("a:1<2;~"), 799);
    }

    private static void blanks(Check check) {
        check.sentence("Its WORDS, blanks apart");
        check.right(" a : - 1 + ( b ) * 2 / 3 <= 4 ! 5 >= 6 @ 7 ; ", 1);
        check.right("a:-1+(b)*2/3<=4!5>=6@7;", 1);
        check.wrong("a:1 2<3", 4);
        check.wrong("a b:1<3", 2);
        check.wrong("a:b c<3", 4);
        check.wrong("a:1< =3", 5);
        check.wrong("a:1> =3", 5);
    }

    private static void numbers(Check check) {
        check.sentence("NUMBERS (1 .. 9 digits)");
        Asked.side(check, "0", 0, 1);
        Asked.side(check, "9", 9, 1);
        Asked.side(check, "999999999", 999999999, 1);
        Asked.side(check, "100000000", 100000000, 1);
        Asked.side(check, "000000000", 0, 1);
        Asked.side(check, "000000012", 12, 1);
        check.right("a:1<2@999999999", 1);
        check.wrong("a:1000000000<2", 2);
    }

    private static void names(Check check) {
        check.sentence("NAMES (1 .. 8 small letters)");
        check.right("a:z<zzzzzzzz", 1);
        PermitRules rules = Check.of("abcdefgh:1<2;z:1<2");
        check.due("rule(abcdefgh)", rules.rule(Check.pack("abcdefgh")), 0);
        check.due("rule(z)", rules.rule('z'), 1);
        check.wrong("abcdefghi:1<2", 0);
        check.wrong("A:1<2", 0);
        check.wrong("a:Z<2", 2);
        check.wrong("a:xY<2", 3);
        // the characters beside a and z
        check.wrong("a:`<2", 2);
        check.wrong("a:{<2", 2);
    }

    private static void asLongAsCanBe(Check check) {
        check.sentence("each as long as can be");
        PermitRules rules = Check.of("ab:12<abc;a:1<2");
        rules.run(0);
        check.due("12 is one number", rules.told(0, 1), 12);
        check.due("abc is one name", rules.told(0, 6), Check.pack("abc"));
        check.due("ab is one name", rules.rule(Check.pack("ab")), 0);
        // digits end a name, and letters a number: they are two words
        check.wrong("a:2x<3", 3);
        check.wrong("a:x2<3", 3);
        check.wrong("a1:1<2", 1);
        // so nine letters are no name of eight with one behind it
        check.wrong("a:1<2;bcdefghij:1<2", 6);
    }

    private static void signs(Check check) {
        check.sentence("the signs + - * / ( ) < <= = >= > : ; ! @");
        check.right("a:x+y-z*2/(3)<1;b:1<=2;c:1=2;d:1>=2;e:1>2!1<2@3", 5);
        String others = "\"#$%&',.?[\\]^_`{|}~";
        for (int i = 0; i < others.length(); i++) {
            check.wrong("a:1<2 " + others.charAt(i), 6);
            check.wrong("a:" + others.charAt(i) + "1<2", 2);
        }
    }

    private static void equalsBehind(Check check) {
        check.sentence("(a = right behind < or > belongs to it)");
        Asked.state(check, "a:1<=1", Asked.HOLDS);
        Asked.state(check, "a:1>=1", Asked.HOLDS);
        Asked.state(check, "a:1<1", Asked.BROKEN);
        Asked.state(check, "a:1>1", Asked.BROKEN);
        check.wrong("a:1<==1", 5);
        check.wrong("a:1>==1", 5);
        check.wrong("a:1==1", 4);
        check.wrong("a:1=<1", 4);
        check.wrong("a:1=>1", 4);
        check.wrong("a:1<>1", 4);
        check.wrong("a:1<=", 5);
    }

    private static void characterInNoWord(Check check) {
        check.sentence("it is a character that is in no word");
        check.wrong("~", 0);
        check.wrong("  ~", 2);
        check.wrong("a~", 1);
        check.wrong("a:1.5<2", 3);
        check.wrong("a:1<2;~", 6);
        check.wrong("a:1<2&", 5);
        check.wrong("aB:1<2", 1);
        check.wrong("a:1<2@1?", 7);
    }

    private static void tooLong(Check check) {
        check.sentence("a number or name that is too long");
        check.wrong("a:1234567890<2", 2);
        check.wrong("a:0000000000<2", 2);
        check.wrong("a:1<1234567890", 4);
        check.wrong("a:1<2@0000000001", 6);
        check.wrong("a:1<2!1234567890<2", 6);
        check.wrong("abcdefghi:1<2", 0);
        check.wrong("a:abcdefghi<2", 2);
        check.wrong("a:1<abcdefghi", 4);
        check.wrong(Check.repeat("z", 800), 0);
        check.wrong("a:" + Check.repeat("1", 798), 2);
    }
}
