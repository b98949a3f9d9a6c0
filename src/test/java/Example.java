/** A house of 100 on a plot of 240, of which two fifths may be built on. */
public final class Example {
    public static void main(String[] args) {
        PermitRules rules = new PermitRules();
        say(rules, "area: built / plot <= 2/5 ! plot < 50 @ 10");
        print("rules read", rules.read());
        rules.fact(number("built"), 100);
        rules.fact(number("plot"), 240);
        print("broken on day 20", rules.run(20));
        int first = rules.broken(0);
        print("the first of them", first);
        print("its state", rules.told(first, 0));
        print("its left side, above", rules.told(first, 1));
        print("its left side, below", rules.told(first, 2));
        print("built would do with", rules.suggest(first, number("built"), 8));
        print("nearer it would not", rules.suggest(first, number("built"), 3));
        rules.forget(number("plot"));
        print("broken without a plot", rules.run(20));
        print("its state", rules.told(first, 0));
        print("why it is open", rules.told(first, 5));
        print("is it plot", rules.told(first, 6) == number("plot") ? 1 : 0);
        say(rules, "area: built < = 5");
        print("a wrong text", rules.read());
    }

    /** Up to eight characters as a number: a byte each, the first one highest. */
    static long number(String characters) {
        long number = 0;
        for (int i = 0; i < characters.length(); i++) {
            number = number << 8 | characters.charAt(i);
        }
        return number;
    }

    static void say(PermitRules rules, String text) {
        for (int i = 0; i < text.length(); i += 8) {
            rules.say(number(text.substring(i, Math.min(i + 8, text.length()))));
        }
    }

    static void print(String what, long answer) {
        System.out.println(what + ": " + answer);
    }
}
