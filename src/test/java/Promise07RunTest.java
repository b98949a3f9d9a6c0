/** Promise 7: all rules are asked on a day; here is how they are reckoned too. */
public final class Promise07RunTest {
    private static final int HOLDS = Asked.HOLDS;
    private static final int BROKEN = Asked.BROKEN;
    private static final int EXCEPTED = Asked.EXCEPTED;
    private static final int OPEN = Asked.OPEN;
    private static final int LATER = Asked.LATER;

    public static void main(String[] args) {
        Check check = Check.begin();
        brokenOnes(check);
        days(check);
        signs(check);
        exceptions(check);
        fractions(check);
        whyOpen(check);
        whichComesFirst(check);
        greatestNumbers(check);
        deepSides(check);
        check.end();
    }

    private static void brokenOnes(Check check) {
        check.due("run without rules", new PermitRules().run(7), 0);
        PermitRules rules = Check.of("a:x<1;b:x<2;c:x<3;d:y<1;e:9<x!1<2;f:9<x@5");
        check.due("run(0) without facts", rules.run(0), 0);
        rules.fact('x', 2);
        check.due("run(0)", rules.run(0), 2);
        check.due("run(5)", rules.run(5), 3);
        rules.fact('x', 0);
        check.due("run(4)", rules.run(4), 0);
        check.argument("run(-1)", () -> rules.run(-1));
        check.argument("run(10^6 + 1)", () -> rules.run(1000001));
        check.argument("run(least)", () -> rules.run(Integer.MIN_VALUE));
        check.argument("run(greatest)", () -> rules.run(Integer.MAX_VALUE));
        check.due("what was told stays", rules.told(5, 0), LATER);
        check.due("run(10^6)", rules.run(1000000), 1);
    }

    private static void days(Check check) {
        PermitRules rules = Check.of("a:2<1@10;b:2<1!1<2@20;c:2<1;d:2<1@1000000;e:2<1@999999999");
        long[][] want = {
            {0, LATER, LATER, BROKEN, LATER, LATER},
            {9, LATER, LATER, BROKEN, LATER, LATER},
            {10, BROKEN, LATER, BROKEN, LATER, LATER},
            {19, BROKEN, LATER, BROKEN, LATER, LATER},
            {20, BROKEN, EXCEPTED, BROKEN, LATER, LATER},
            {1000000, BROKEN, EXCEPTED, BROKEN, BROKEN, LATER},
            {0, LATER, LATER, BROKEN, LATER, LATER}};
        for (long[] row : want) {
            rules.run((int) row[0]);
            for (int i = 0; i < 5; i++) {
                check.due("rule " + i + " on day " + row[0], rules.told(i, 0), row[i + 1]);
            }
        }
    }

    private static void signs(Check check) {
        String[] signs = {"<", "<=", "=", ">=", ">"};
        String[] sides = {"1/3", "1/2", "-1/2"};
        int[][] holds = {{1, 1, 0, 0, 0}, {0, 1, 1, 1, 0}, {0, 0, 0, 1, 1}};
        for (int s = 0; s < signs.length; s++) {
            Asked.state(check, "a:1/3" + signs[s] + "1/2", holds[0][s] == 1 ? HOLDS : BROKEN);
            Asked.state(check, "a:2/4" + signs[s] + "1/2", holds[1][s] == 1 ? HOLDS : BROKEN);
            Asked.state(check, "a:1/2" + signs[s] + "1/3", holds[2][s] == 1 ? HOLDS : BROKEN);
            Asked.state(check, "a:-1/2" + signs[s] + "-1/3", holds[0][s] == 1 ? HOLDS : BROKEN);
            Asked.state(check, "a:1/(0-2)" + signs[s] + "0", holds[0][s] == 1 ? HOLDS : BROKEN);
            for (String side : sides) {
                Asked.state(check, "a:" + side + signs[s] + side, holds[1][s] == 1 ? HOLDS : BROKEN);
            }
        }
    }

    private static void exceptions(Check check) {
        Asked.state(check, "a:2<1", BROKEN);
        Asked.state(check, "a:1<2!2<1", HOLDS);
        Asked.state(check, "a:1<2!x<1", HOLDS);
        Asked.state(check, "a:2<1!1<2", EXCEPTED);
        Asked.state(check, "a:2<1!1<2!1<2", EXCEPTED);
        Asked.state(check, "a:2<1!2<1!1<2", BROKEN);
        Asked.state(check, "a:2<1!1<2!2<1", BROKEN);
        Asked.state(check, "a:2<1!2<1!x<1", BROKEN);
        Asked.state(check, "a:2<1!x<1!2<1", OPEN);
        Asked.state(check, "a:2<1!1<2!x<1", OPEN);
        Asked.state(check, "a:x<1!1<2", OPEN);
        Asked.state(check, "a:1<x!1<2", OPEN);
        Asked.state(check, "a:1/0<1!1<2@1", LATER);
        PermitRules rules = Check.of("a:3/6<1/4!5<6!7=x/y;b:2<1!3<4");
        rules.fact('x', 14);
        rules.fact('y', 2);
        rules.run(0);
        check.due("EXCEPTED", rules.told(0, 0), EXCEPTED);
        check.due("the left side is the clause's own", rules.told(0, 1), 1);
        check.due("the left side is the clause's own", rules.told(0, 2), 2);
        check.due("the right side is the clause's own", rules.told(0, 3), 1);
        check.due("the right side is the clause's own", rules.told(0, 4), 4);
        check.due("the next rule's clauses are its own", rules.told(1, 1), 2);
        check.due("the next rule", rules.told(1, 0), EXCEPTED);
    }

    private static void fractions(Check check) {
        Asked.side(check, "0", 0, 1);
        Asked.side(check, "7", 7, 1);
        Asked.side(check, "-7", -7, 1);
        Asked.side(check, "6/4", 3, 2);
        Asked.side(check, "-6/4", -3, 2);
        Asked.side(check, "6/(0-4)", -3, 2);
        Asked.side(check, "(0-6)/(0-4)", 3, 2);
        Asked.side(check, "0/(0-4)", 0, 1);
        Asked.side(check, "1/2+1/3", 5, 6);
        Asked.side(check, "1/2-1/3", 1, 6);
        Asked.side(check, "1/3-1/2", -1, 6);
        Asked.side(check, "1/6+1/3", 1, 2);
        Asked.side(check, "1/2-1/2", 0, 1);
        Asked.side(check, "2/3*3/4", 1, 2);
        Asked.side(check, "(2/3)/(4/9)", 3, 2);
        Asked.side(check, "2/3/4", 1, 6);
        Asked.side(check, "24/2*3", 36, 1);
        Asked.side(check, "24/(2*3)", 4, 1);
        Asked.side(check, "10-3-2", 5, 1);
        Asked.side(check, "10-(3-2)", 9, 1);
        Asked.side(check, "1+2*3", 7, 1);
        Asked.side(check, "(1+2)*3", 9, 1);
        Asked.side(check, "-2*3+10", 4, 1);
        Asked.side(check, "-2+3", 1, 1);
        Asked.side(check, "-(2+3)", -5, 1);
        Asked.side(check, "2*(-3)", -6, 1);
        Asked.side(check, "-(-(-(-5)))", 5, 1);
        Asked.side(check, "999999999*999999999", 999999998000000001L, 1);
        // numbers that follow one another in Fibonacci's row take the longest to see that nothing divides both
        Asked.side(check, "701408733/433494437", 701408733, 433494437);
        Asked.side(check, "((2880067*1000000+194370)*1000000+816120)/((1779979*1000000+416004)*1000000+714189)",
            2880067194370816120L, 1779979416004714189L);
    }

    private static void whyOpen(Check check) {
        Asked.open(check, "a:x<1", 1);
        Asked.open(check, "a:1<x", 1);
        Asked.open(check, "a:999999999*999999999*999999999<1", 2);
        Asked.open(check, "a:1<999999999*999999999*999999999", 2);
        Asked.open(check, "a:1/999999999/999999999/999999999<1", 2);
        Asked.open(check, "a:1/999999999/999999999<999999999/999999998", 2);
        Asked.open(check, "a:1/999999999+1/999999998+1/999999997<1", 2);
        Asked.open(check, "a:1/999999999-1/999999998-1/999999997<1", 2);
        Asked.open(check, "a:1/0<1", 3);
        Asked.open(check, "a:1<0/0", 3);
        Asked.open(check, "a:1/(2-2)<1", 3);
        Asked.open(check, "a:2<1!1/0<1", 3);
        Asked.open(check, "a:2<1!1<999999999*999999999*999999999", 2);
        // a zero may stand above
        Asked.state(check, "a:0/5<1", HOLDS);
        // sides that are alike may still be too great to compare
        String great = "1/999999999/999999999*999999998*5";
        Asked.open(check, "a:" + great + "=" + great, 2);
    }

    private static void whichComesFirst(Check check) {
        Asked.open(check, "a:1/0+x<1", 3);
        Asked.open(check, "a:x+1/0<1", 1);
        Asked.open(check, "a:1/0*x<1", 3);
        Asked.open(check, "a:1/(0*x)<1", 1);
        Asked.open(check, "a:x/0<1", 1);
        Asked.open(check, "a:999999999*999999999*999999999/0<1", 2);
        Asked.open(check, "a:999999999*999999999*x*999999999<1", 1);
        Asked.open(check, "a:1/0<x", 3);
        Asked.open(check, "a:x<1/0", 1);
        Asked.open(check, "a:-x+1/0<1", 1);
        Asked.open(check, "a:2<1!1/0<1!x<1", 3);
        Asked.open(check, "a:2<1!x<1!1/0<1", 1);
        PermitRules rules = Check.of("a:x+y<z");
        rules.run(0);
        check.due("x is missing first", rules.told(0, 6), 'x');
        rules.fact('x', 1);
        rules.run(0);
        check.due("then y", rules.told(0, 6), 'y');
        rules.fact('y', 1);
        rules.run(0);
        check.due("then z", rules.told(0, 6), 'z');
    }

    private static void greatestNumbers(Check check) {
        long least = Long.MIN_VALUE;
        long greatest = Long.MAX_VALUE;
        // 2^30 is 1073741824, too long a number: 536870912 is 2^29
        String low = "(0-536870912)*536870912*32";
        Asked.side(check, low, least, 1);
        Asked.side(check, "-1-(" + low + ")", greatest, 1);
        Asked.side(check, "(" + low + ")/(" + low + ")", 1, 1);
        Asked.side(check, "0/(" + low + ")", 0, 1);
        Asked.side(check, "(" + low + ")/2", least / 2, 1);
        Asked.side(check, "(" + low + ")/(0-2)", -(least / 2), 1);
        Asked.side(check, "2/(" + low + ")", -1, -(least / 2));
        Asked.side(check, "(" + low + ")*1", least, 1);
        Asked.side(check, "(" + low + ")/3", least, 3);
        Asked.side(check, "1/(-1-(" + low + "))", 1, greatest);
        Asked.side(check, "(0-1)/(-1-(" + low + "))", -1, greatest);
        Asked.open(check, "a:-(" + low + ")<1", 2);
        Asked.open(check, "a:0-(" + low + ")<1", 2);
        Asked.open(check, "a:" + low + "-1<1", 2);
        Asked.open(check, "a:-1+" + low + "<1", 2);
        Asked.open(check, "a:(" + low + ")/(0-1)<1", 2);
        Asked.open(check, "a:(" + low + ")/(0-3)<1", 2);
        Asked.open(check, "a:1/(" + low + ")<1", 2);
        Asked.open(check, "a:3/(" + low + ")<1", 2);
        Asked.open(check, "a:(0-1)*(" + low + ")<1", 2);
        Asked.open(check, "a:(" + low + ")*(0-1)<1", 2);
        Asked.open(check, "a:-1-(" + low + ")+1<1", 2);
        Asked.open(check, "a:536870912*536870912*32<1", 2);
        Asked.state(check, "a:" + low + "<0-1", HOLDS);
        Asked.open(check, "a:" + low + "<1/2", 2);
        Asked.state(check, "a:" + low + "<-1-(" + low + ")", HOLDS);
    }

    private static void deepSides(Check check) {
        StringBuilder side = new StringBuilder();
        for (int i = 0; i < 8; i++) {
            side.append("1-2*(");
        }
        side.append("1-2*3").append(Check.repeat(")", 8));
        // each level is 1 - 2 s, which from 1 - 2 * 3 = -5 goes to 11, -21, ..
        long want = -5;
        for (int i = 0; i < 8; i++) {
            want = 1 - 2 * want;
        }
        Asked.side(check, side.toString(), want, 1);
    }
}
