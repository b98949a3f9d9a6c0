/** Promise 5: a fact has a value. */
public final class Promise05FactTest {
    public static void main(String[] args) {
        Check check = Check.begin();
        values(check);
        names(check);
        fortyFacts(check);
        check.end();
    }

    private static void values(Check check) {
        PermitRules rules = new PermitRules();
        check.due("fact(x, 5)", rules.fact('x', 5), PermitRules.NO);
        check.due("fact(x, 0)", rules.fact('x', 0), 5);
        check.due("fact(x, -7)", rules.fact('x', -7), 0);
        check.due("fact(x, 10^9)", rules.fact('x', 1000000000), -7);
        check.argument("fact(x, 10^9 + 1)", () -> rules.fact('x', 1000000001));
        check.argument("fact(x, greatest)", () -> rules.fact('x', Integer.MAX_VALUE));
        check.due("fact(x, -10^9)", rules.fact('x', -1000000000), 1000000000);
        check.argument("fact(x, -10^9 - 1)", () -> rules.fact('x', -1000000001));
        check.argument("fact(x, least)", () -> rules.fact('x', Integer.MIN_VALUE));
        check.argument("fact(y, 10^9 + 1)", () -> rules.fact('y', 1000000001));
        check.due("fact(x, 1)", rules.fact('x', 1), -1000000000);
        check.due("count(2)", rules.count(2), 1);
    }

    private static void names(Check check) {
        PermitRules rules = new PermitRules();
        long[] none = {0, -1, 'A', '1', '`', '{', ' ', 0x6100, 0x610061, 0x6141, 0x4161, 0x6100000000000000L,
            0x0061616161616100L, 0x6161616161616141L, 0xE161616161616161L, 0x1FFL, Long.MIN_VALUE, Long.MAX_VALUE};
        for (long name : none) {
            check.argument("fact(" + Long.toHexString(name) + ", 1)", () -> rules.fact(name, 1));
        }
        check.due("count(2)", rules.count(2), 0);
        String[] right = {"a", "z", "aa", "az", "za", "abcdefg", "abcdefgh", "zzzzzzzz", "aaaaaaaa"};
        for (int i = 0; i < right.length; i++) {
            check.due("fact(" + right[i] + ")", rules.fact(Check.pack(right[i]), i), PermitRules.NO);
        }
        for (int i = 0; i < right.length; i++) {
            check.due("fact(" + right[i] + ") again", rules.fact(Check.pack(right[i]), -i), i);
        }
        check.due("count(2)", rules.count(2), right.length);
    }

    private static void fortyFacts(Check check) {
        PermitRules rules = new PermitRules();
        for (int i = 0; i < 40; i++) {
            check.due("fact " + i, rules.fact(0x6161 + i % 20 + 256 * (i / 20), i), PermitRules.NO);
        }
        check.state("the 41st fact", () -> rules.fact('x', 1));
        check.argument("no name goes before too many", () -> rules.fact('X', 1));
        check.argument("no value goes before too many", () -> rules.fact('x', 1000000001));
        check.due("count(2)", rules.count(2), 40);
        check.due("an old one", rules.fact(0x6161, 100), 0);
        check.due("the last one", rules.fact(0x6161 + 19 + 256, 100), 39);
        check.due("forget one", rules.forget(0x6162), 1);
        check.due("a new one then", rules.fact('x', 1), PermitRules.NO);
        check.state("one more", () -> rules.fact('y', 1));
        check.state("the forgotten one", () -> rules.fact(0x6162, 1));
    }
}
