/** Promise 2: the bytes of a word come behind the text. */
public final class Promise02SayTest {
    public static void main(String[] args) {
        Check check = Check.begin();
        ordinary(check);
        orderAndZeros(check);
        wrongBytes(check);
        fullText(check);
        check.end();
    }

    private static void ordinary(Check check) {
        PermitRules rules = new PermitRules();
        check.due("say(0)", rules.say(0), 0);
        check.due("say(a)", rules.say('a'), 1);
        check.due("say(:1)", rules.say(Check.pack(":1")), 3);
        check.due("say(<2      )", rules.say(Check.pack("<2      ")), 11);
        check.due("count(0)", rules.count(0), 11);
        check.due("read()", rules.read(), 1);
        check.due("say(a) behind read", rules.say('a'), 1);
    }

    private static void orderAndZeros(Check check) {
        PermitRules rules = new PermitRules();
        check.due("say(a with zeros behind)", rules.say(0x6100000000000000L), 1);
        check.due("say(: 1 < with zeros between)", rules.say(0x003A000031003C00L), 4);
        check.due("say(2)", rules.say('2'), 5);
        check.due("read()", rules.read(), 1);
        check.due("rule(a)", rules.rule('a'), 0);
        rules.run(0);
        check.due("1 is on the left", rules.told(0, 1), 1);
        check.due("2 is on the right", rules.told(0, 3), 2);
    }

    private static void wrongBytes(Check check) {
        PermitRules rules = new PermitRules();
        rules.say(Check.pack("ab"));
        for (int place = 0; place < 64; place += 8) {
            for (int octet : new int[] {1, 9, 10, 31, 127, 128, 255}) {
                long word = (0x6161616161616161L & ~(255L << place)) | ((long) octet << place);
                check.argument("say with byte " + octet + " at " + place, () -> rules.say(word));
            }
        }
        check.argument("say(-1)", () -> rules.say(-1));
        check.due("count(0) behind these", rules.count(0), 2);
        check.due("say(32)", rules.say(32), 3);
        check.due("say(126)", rules.say(126), 4);
    }

    private static void fullText(Check check) {
        PermitRules rules = new PermitRules();
        for (int i = 1; i <= 99; i++) {
            check.due("say of eight, " + i, rules.say(0x2020202020202020L), 8 * i);
        }
        check.due("say of seven", rules.say(0x20202020202020L), 799);
        check.state("say of two more", () -> rules.say(0x2020L));
        check.due("count(0)", rules.count(0), 799);
        check.due("say of one more", rules.say(0x2000L), 800);
        check.due("say of none more", rules.say(0), 800);
        check.state("say of one more than 800", () -> rules.say(32));
        check.argument("a wrong byte goes before a full text", () -> rules.say(31));
        check.due("count(0)", rules.count(0), 800);
        check.due("read()", rules.read(), -801);
    }
}
