/** Promise 6: a fact is forgotten. */
public final class Promise06ForgetTest {
    public static void main(String[] args) {
        Check check = Check.begin();
        PermitRules rules = Check.of("a:x<y+z");
        check.due("forget(x)", rules.forget('x'), PermitRules.NO);
        rules.fact('x', 1);
        rules.fact('y', 2);
        rules.fact('z', 3);
        check.argument("forget(0)", () -> rules.forget(0));
        check.argument("forget(X)", () -> rules.forget('X'));
        check.argument("forget(x0)", () -> rules.forget(0x7800));
        check.argument("forget(-1)", () -> rules.forget(-1));
        check.due("forget(xx)", rules.forget(0x7878), PermitRules.NO);
        check.due("count(2)", rules.count(2), 3);
        rules.run(0);
        check.due("forget(x)", rules.forget('x'), 1);
        check.due("what was told stays", rules.told(0, 0), 0);
        check.due("count(2)", rules.count(2), 2);
        check.due("forget(x) again", rules.forget('x'), PermitRules.NO);
        check.due("run(0)", rules.run(0), 0);
        check.due("x is missing", rules.told(0, 6), 'x');
        check.due("y stays", rules.fact('y', 2), 2);
        check.due("z stays", rules.fact('z', 3), 3);
        check.due("forget(z)", rules.forget('z'), 3);
        check.due("forget(y)", rules.forget('y'), 2);
        check.due("count(2)", rules.count(2), 0);
        check.due("fact(x) is new", rules.fact('x', 9), PermitRules.NO);
        check.end();
    }
}
