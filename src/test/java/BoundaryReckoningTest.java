/** The boundary cases of "Terms": reckoning, and what is OPEN. Each method tests one sentence. */
public final class BoundaryReckoningTest {
    private static final long LEAST = Long.MIN_VALUE;
    private static final long GREATEST = Long.MAX_VALUE;

    // Powers of two, each from factors of at most nine digits; 536870912 is 2^29.
    private static final String TWO_31 = "(536870912*4)";
    private static final String TWO_32 = "(536870912*8)";
    private static final String TWO_62 = "(536870912*536870912*16)";
    private static final String MINUS_TWO_63 = "((0-536870912)*536870912*32)";

    // 2^63 - 1 is 153092023 * 60247241209, and nothing divides both of these.
    private static final long ONE_PART = 153092023L;
    private static final long OTHER_PART = 60247241209L;
    private static final String ONE = "153092023";
    private static final String OTHER = "(92737*649657)";
    private static final String MOST = "(153092023*92737*649657)";

    public static void main(String[] args) {
        Check check = Check.begin();
        numbersOf64Bits(check);
        lowestTerms(check);
        lowerOneAboveZero(check);
        wholeNumbers(check);
        sums(check);
        differences(check);
        products(check);
        quotients(check);
        takenOutBehind(check);
        signsChanged(check);
        firstMinus(check);
        comparisons(check);
        leftToRight(check);
        firstThatIsMet(check);
        missing(check);
        greatProducts(check);
        greatSums(check);
        greatChangedSigns(check);
        byZero(check);
        check.end();
    }

    private static void great(Check check, String side) {
        Asked.noSide(check, side, Asked.GREAT);
    }

    private static void numbersOf64Bits(Check check) {
        check.sentence("RECKONING is in fractions, of 64-bit numbers");
        Asked.side(check, MOST, GREATEST, 1);
        Asked.side(check, MINUS_TWO_63, LEAST, 1);
        Asked.side(check, "-" + MOST, -GREATEST, 1);
        Asked.side(check, "1/" + MOST, 1, GREATEST);
        Asked.side(check, "-1/" + MOST, -1, GREATEST);
        Asked.side(check, MINUS_TWO_63 + "/" + MOST, LEAST, GREATEST);
        great(check, MOST + "+1");
        great(check, MINUS_TWO_63 + "-1");
        great(check, "1/" + MOST + "/2");
    }

    private static void lowestTerms(Check check) {
        check.sentence("in lowest terms");
        Asked.side(check, "6/4", 3, 2);
        Asked.side(check, "999999999/999999999", 1, 1);
        Asked.side(check, "0/999999999", 0, 1);
        Asked.side(check, "1/3-1/3", 0, 1);
        Asked.side(check, "1/6+1/3", 1, 2);
        Asked.side(check, MOST + "/" + MOST, 1, 1);
        Asked.side(check, MOST + "/" + ONE, OTHER_PART, 1);
        Asked.side(check, OTHER + "/" + MOST, 1, ONE_PART);
        Asked.side(check, MINUS_TWO_63 + "/" + TWO_62, -2, 1);
        Asked.side(check, TWO_62 + "/" + MINUS_TWO_63, -1, 2);
        Asked.side(check, MINUS_TWO_63 + "/" + MINUS_TWO_63, 1, 1);
        Asked.side(check, "0/" + MINUS_TWO_63, 0, 1);
        // neighbours in Fibonacci's row below 2^63: nothing divides both, and it takes longest to see
        Asked.side(check, "((7540113*1000000+804746)*1000000+346429)/((4660046*1000000+610375)*1000000+530309)",
            7540113804746346429L, 4660046610375530309L);
    }

    private static void lowerOneAboveZero(Check check) {
        check.sentence("the lower one above 0");
        Asked.side(check, "1/(0-2)", -1, 2);
        Asked.side(check, "(0-1)/(0-2)", 1, 2);
        Asked.side(check, "0/(0-2)", 0, 1);
        Asked.side(check, "1/(0-2)*(1/(0-3))", 1, 6);
        Asked.side(check, "1/(0-2)+1/(0-3)", -5, 6);
    }

    private static void wholeNumbers(Check check) {
        check.sentence("whole numbers n are n / 1");
        PermitRules rules = Check.of("a:x=999999999;b:0=y");
        rules.fact('x', 1000000000);
        rules.fact('y', -1000000000);
        rules.run(0);
        Asked.row(check, rules, 0, Asked.BROKEN, 1000000000, 1, 999999999, 1, 0, 0);
        Asked.row(check, rules, 1, Asked.BROKEN, 0, 1, -1000000000, 1, 0, 0);
    }

    private static void sums(Check check) {
        check.sentence("a / b + c / d is (a d + c b) / (b d)");
        Asked.side(check, "1/2+1/3", 5, 6);
        // the greatest b d, a d and c b that there can be, and what comes behind them
        Asked.side(check, "1/" + ONE + "+1/" + OTHER, ONE_PART + OTHER_PART, GREATEST);
        great(check, "1/" + TWO_31 + "+1/" + TWO_32);
        Asked.side(check, ONE + "+(0-1)/" + OTHER, GREATEST - 1, OTHER_PART);
        great(check, TWO_31 + "+(0-1)/" + TWO_32);
        Asked.side(check, "(0-1)/" + OTHER + "+" + ONE, GREATEST - 1, OTHER_PART);
        great(check, "(0-1)/" + TWO_32 + "+" + TWO_31);
        Asked.side(check, MOST + "+0", GREATEST, 1);
        great(check, MOST + "+1");
        great(check, "1+" + MOST);
        Asked.side(check, "(1-" + MOST + ")+(0-2)", LEAST, 1);
        great(check, MINUS_TWO_63 + "+(0-1)");
        great(check, MINUS_TWO_63 + "+" + MINUS_TWO_63);
        Asked.side(check, MINUS_TWO_63 + "+" + MOST, -1, 1);
    }

    private static void differences(Check check) {
        check.sentence("with - likewise");
        Asked.side(check, "1/2-1/3", 1, 6);
        Asked.side(check, "1/3-1/2", -1, 6);
        Asked.side(check, "1/" + ONE + "-1/" + OTHER, OTHER_PART - ONE_PART, GREATEST);
        great(check, "1/" + TWO_31 + "-1/" + TWO_32);
        // a d and c b are too great even where what is left would not be
        Asked.side(check, ONE + "-1/" + OTHER, GREATEST - 1, OTHER_PART);
        great(check, TWO_31 + "-1/" + TWO_32);
        Asked.side(check, "1/" + OTHER + "-" + ONE, 1 - GREATEST, OTHER_PART);
        great(check, "1/" + TWO_32 + "-" + TWO_31);
        Asked.side(check, "(0-1)-" + MOST, LEAST, 1);
        great(check, "(0-2)-" + MOST);
        Asked.side(check, "(0-1)-" + MINUS_TWO_63, GREATEST, 1);
        great(check, "0-" + MINUS_TWO_63);
        Asked.side(check, MINUS_TWO_63 + "-" + MINUS_TWO_63, 0, 1);
    }

    private static void products(Check check) {
        check.sentence("a / b * c / d is (a c) / (b d)");
        Asked.side(check, "2/3*(5/7)", 10, 21);
        Asked.side(check, ONE + "*" + OTHER, GREATEST, 1);
        great(check, TWO_31 + "*" + TWO_32);
        Asked.side(check, "(0-" + TWO_31 + ")*" + TWO_32, LEAST, 1);
        Asked.side(check, TWO_31 + "*(0-" + TWO_32 + ")", LEAST, 1);
        great(check, "(0-" + TWO_31 + ")*(0-" + TWO_32 + ")");
        Asked.side(check, "1/" + ONE + "*(1/" + OTHER + ")", 1, GREATEST);
        great(check, "1/" + TWO_31 + "*(1/" + TWO_32 + ")");
        Asked.side(check, MINUS_TWO_63 + "*1", LEAST, 1);
        Asked.side(check, "1*" + MINUS_TWO_63, LEAST, 1);
        Asked.side(check, MINUS_TWO_63 + "*0", 0, 1);
        great(check, MINUS_TWO_63 + "*(0-1)");
        great(check, "(0-1)*" + MINUS_TWO_63);
        great(check, MINUS_TWO_63 + "*2");
        great(check, MINUS_TWO_63 + "*" + MINUS_TWO_63);
        // these wrap around to 0 and to 1
        great(check, TWO_32 + "*" + TWO_32);
        great(check, MOST + "*" + MOST);
    }

    private static void quotients(Check check) {
        check.sentence("a / b by c / d is (a d) / (b c)");
        Asked.side(check, "2/3/(5/7)", 14, 15);
        Asked.side(check, "24/2/3", 4, 1);
        Asked.side(check, ONE + "/(1/" + OTHER + ")", GREATEST, 1);
        great(check, TWO_31 + "/(1/" + TWO_32 + ")");
        Asked.side(check, "(0-" + TWO_31 + ")/(1/" + TWO_32 + ")", LEAST, 1);
        Asked.side(check, "1/" + ONE + "/" + OTHER, 1, GREATEST);
        great(check, "1/" + TWO_31 + "/" + TWO_32);
        Asked.side(check, MINUS_TWO_63 + "/1", LEAST, 1);
        Asked.side(check, MINUS_TWO_63 + "/2", LEAST / 2, 1);
        Asked.side(check, MINUS_TWO_63 + "/3", LEAST, 3);
    }

    private static void takenOutBehind(Check check) {
        check.sentence("in what is got so what divides both numbers is taken out");
        // all of these would do if it were taken out before
        great(check, TWO_62 + "/3*(3/" + TWO_62 + ")");
        great(check, TWO_62 + "/3/(" + TWO_62 + "/3)");
        great(check, "1/" + TWO_32 + "+1/" + TWO_32);
        great(check, "1/" + TWO_32 + "-1/" + TWO_32);
        Asked.side(check, "1/" + TWO_31 + "+1/" + TWO_31, 1, 1L << 30);
        Asked.side(check, TWO_31 + "/3*(3/" + TWO_31 + ")", 1, 1);
    }

    private static void signsChanged(Check check) {
        check.sentence("then, if the lower one is below 0, both signs are changed");
        // first what divides both is taken out, so that here the signs can be changed
        Asked.side(check, MINUS_TWO_63 + "/(0-2)", 1L << 62, 1);
        Asked.side(check, "2/" + MINUS_TWO_63, -1, 1L << 62);
        Asked.side(check, "(0-2)/" + MINUS_TWO_63, 1, 1L << 62);
        Asked.side(check, MINUS_TWO_63 + "/(0-6)", 1L << 62, 3);
        Asked.side(check, MOST + "/(0-1)", -GREATEST, 1);
        Asked.side(check, "1/(0-" + MOST + ")", -1, GREATEST);
        Asked.side(check, "(0-" + MOST + ")/(0-2)", GREATEST, 2);
    }

    private static void firstMinus(Check check) {
        check.sentence("the - of a first term is 0 / 1 less it");
        Asked.side(check, "-0", 0, 1);
        Asked.side(check, "-" + MOST, -GREATEST, 1);
        great(check, "-" + MINUS_TWO_63);
        Asked.side(check, "-1/" + MOST, -1, GREATEST);
        // the whole first term is reckoned before it: 2^63 is too great, though -2^63 is not
        great(check, "-536870912*536870912*32");
        Asked.side(check, "-153092023*92737*649657-1", LEAST, 1);
        great(check, "-153092023*92737*649657-2");
    }

    private static void comparisons(Check check) {
        check.sentence("a / b is less than c / d if a d is less than c b, and so on.");
        String[] signs = {"<", "<=", "=", ">=", ">"};
        int[][] holds = {{1, 1, 0, 0, 0}, {0, 1, 1, 1, 0}, {0, 0, 0, 1, 1}};
        String[][] pairs = {
            {"1/3", "1/2", "0"}, {"-1/2", "-1/3", "0"}, {"-1", "0", "0"}, {MINUS_TWO_63, MOST, "0"},
            {MOST + "-1", MOST, "0"}, {MINUS_TWO_63, MINUS_TWO_63 + "+1", "0"}, {"1/" + OTHER, ONE, "0"},
            {"-" + TWO_31, "1/" + TWO_32, "0"}, {"2/4", "1/2", "1"}, {"0", "-0", "1"}, {MOST, MOST, "1"}, {"1/" + MOST, "1/" + MOST, "1"},
            {MINUS_TWO_63, MINUS_TWO_63, "1"}, {"1/2", "1/3", "2"}, {ONE, "1/" + OTHER, "2"}, {MOST, MINUS_TWO_63, "2"}};
        for (String[] pair : pairs) {
            for (int i = 0; i < signs.length; i++) {
                int want = holds[pair[2].charAt(0) - '0'][i] == 1 ? Asked.HOLDS : Asked.BROKEN;
                Asked.state(check, "a:" + pair[0] + signs[i] + pair[1], want);
            }
        }
        String[][] greatPairs = {{"1/" + TWO_32, TWO_31}, {TWO_31, "1/" + TWO_32}, {"2/" + MOST, "2/" + MOST},
            {"1/2", MINUS_TWO_63}, {"1/" + TWO_32, "-" + TWO_31 + "-1"}};
        for (String[] pair : greatPairs) {
            for (String sign : signs) {
                Asked.open(check, "a:" + pair[0] + sign + pair[1], Asked.GREAT);
            }
        }
    }

    private static void leftToRight(Check check) {
        check.sentence("It goes from left to right.");
        Asked.side(check, "10-3-2", 5, 1);
        Asked.side(check, "24/2*3", 36, 1);
        Asked.side(check, "8/4/2", 1, 1);
        Asked.side(check, "1+2*3", 7, 1);
        Asked.side(check, MOST + "-1+1", GREATEST, 1);
        great(check, MOST + "+1-1");
        Asked.side(check, TWO_62 + "/8*4", 1L << 61, 1);
        great(check, TWO_62 + "*4/8");
        great(check, "0*" + TWO_62 + "+" + TWO_62 + "*4*0");
    }

    private static void firstThatIsMet(Check check) {
        check.sentence("What cannot be reckoned is OPEN, for the first of these that is met");
        String tooGreat = TWO_62 + "*4";
        Asked.noSide(check, "x+1/0", Asked.MISSING);
        Asked.noSide(check, "1/0+x", Asked.ZERO);
        Asked.noSide(check, "x+" + tooGreat, Asked.MISSING);
        Asked.noSide(check, tooGreat + "+x", Asked.GREAT);
        Asked.noSide(check, tooGreat + "+1/0", Asked.GREAT);
        Asked.noSide(check, "1/0+" + tooGreat, Asked.ZERO);
        Asked.noSide(check, tooGreat + "/0", Asked.GREAT);
        Asked.noSide(check, "x/0", Asked.MISSING);
        Asked.noSide(check, TWO_62 + "*x*4", Asked.MISSING);
        Asked.noSide(check, "1/(0*x)", Asked.MISSING);
        Asked.noSide(check, "(1/0)*(x)", Asked.ZERO);
        Asked.open(check, "a:1/0<x", Asked.ZERO);
        Asked.open(check, "a:x<1/0", Asked.MISSING);
        Asked.open(check, "a:" + tooGreat + "<x", Asked.GREAT);
        // both sides are reckoned before they are compared
        Asked.open(check, "a:1/" + TWO_32 + "<" + TWO_31 + "/0", Asked.ZERO);
        PermitRules rules = Check.of("a:y+x<z");
        rules.run(0);
        check.due("the first name", rules.told(0, 6), 'y');
    }

    private static void missing(Check check) {
        check.sentence("1 MISSING: a name is of no fact");
        Asked.noSide(check, "x", Asked.MISSING);
        Asked.noSide(check, "0*x", Asked.MISSING);
        Asked.noSide(check, "x-x", Asked.MISSING);
        PermitRules rules = Check.of("a:x=0");
        rules.fact('x', 0);
        rules.fact(Check.pack("xx"), 5);
        rules.run(0);
        check.due("a fact may be 0", rules.told(0, 0), Asked.HOLDS);
        rules.forget('x');
        rules.run(0);
        Asked.row(check, rules, 0, Asked.OPEN, 0, 0, 0, 0, Asked.MISSING, 'x');
    }

    private static void greatProducts(Check check) {
        check.sentence("2 GREAT: one of the products");
        great(check, "536870912*536870912*32");
        great(check, "536870912*536870912*64");
        great(check, "999999999*999999999*999999999");
        great(check, "1/999999999/999999999/999999999");
        Asked.side(check, "536870912*536870912*31", 31L << 58, 1);
    }

    private static void greatSums(Check check) {
        check.sentence("or sums told here");
        great(check, MOST + "+1");
        great(check, MINUS_TWO_63 + "-1");
        great(check, TWO_62 + "+" + TWO_62);
        Asked.side(check, TWO_62 + "-1+" + TWO_62, GREATEST, 1);
        // each product is small enough here, and their sum is not
        great(check, "536870912*536870912*8+536870912*536870912*16/3");
        // a third of 2^64 - 1, whose bits are 0101 .., and all of them change in these sums
        String third = "(5*17*257*641*65537*6700417)";
        Asked.side(check, third, 0x5555555555555555L, 1);
        great(check, third + "+" + third);
        great(check, "-" + third + "-1-" + third);
        Asked.side(check, "536870912*536870912*8+536870912*536870912*4/3", 7L << 60, 3);
    }

    private static void greatChangedSigns(Check check) {
        check.sentence("or a changed sign, is no 64-bit number");
        great(check, MINUS_TWO_63 + "/(0-1)");
        great(check, MINUS_TWO_63 + "/(0-3)");
        great(check, "1/" + MINUS_TWO_63);
        great(check, "(0-1)/" + MINUS_TWO_63);
        great(check, "3/" + MINUS_TWO_63);
        great(check, "1/" + TWO_32 + "/(0-" + TWO_31 + ")");
    }

    private static void byZero(Check check) {
        check.sentence("3 ZERO: by 0");
        Asked.noSide(check, "1/0", Asked.ZERO);
        Asked.noSide(check, "0/0", Asked.ZERO);
        Asked.noSide(check, MINUS_TWO_63 + "/0", Asked.ZERO);
        Asked.noSide(check, "1/" + MOST + "/0", Asked.ZERO);
        Asked.noSide(check, "1/(1/3-1/3)", Asked.ZERO);
        Asked.noSide(check, "1/(0/5)", Asked.ZERO);
        Asked.noSide(check, "0*(1/0)", Asked.ZERO);
        Asked.side(check, "0/5", 0, 1);
        PermitRules rules = Check.of("a:5/x=5");
        rules.fact('x', 0);
        rules.run(0);
        Asked.row(check, rules, 0, Asked.OPEN, 0, 0, 0, 0, Asked.ZERO, 0);
        rules.fact('x', 1);
        rules.run(0);
        Asked.row(check, rules, 0, Asked.HOLDS, 5, 1, 5, 1, 0, 0);
    }
}
