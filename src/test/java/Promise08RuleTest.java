/** Promise 8: the number of the rule with a name. */
public final class Promise08RuleTest {
    public static void main(String[] args) {
        Check check = Check.begin();
        PermitRules none = new PermitRules();
        check.due("rule(a) without rules", none.rule('a'), PermitRules.NONE);
        PermitRules rules = Check.of("z:x<1;abcdefgh:2<1;a:1<2;ab:1<2;ba:1<2;aaaaaaaa:1<2");
        String[] names = {"z", "abcdefgh", "a", "ab", "ba", "aaaaaaaa"};
        for (int i = 0; i < names.length; i++) {
            check.due("rule(" + names[i] + ")", rules.rule(Check.pack(names[i])), i);
        }
        String[] others = {"x", "b", "aa", "abcdefg", "bcdefgh", "abcdefgi", "aaaaaaa"};
        for (String other : others) {
            check.due("rule(" + other + ")", rules.rule(Check.pack(other)), PermitRules.NONE);
        }
        long[] wrong = {0, 'A', '1', ' ', 0x6100, 0x610061, 0x6141, -1, 0x6100000000000000L, Long.MIN_VALUE};
        for (long name : wrong) {
            check.argument("rule(" + Long.toHexString(name) + ")", () -> rules.rule(name));
        }
        check.argument("no name without rules", () -> none.rule(0));
        check.end();
    }
}
