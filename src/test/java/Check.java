/** What the tests share: calls with the answer that is due, and texts and names as numbers. */
final class Check {
    interface Call {
        long answer();
    }

    private int wrong = 0;
    private int seen = 0;
    private String sentence = "";
    private int seenBefore = -1;

    static Check begin() {
        return new Check();
    }

    /** What follows tests these words of the document; what came before must have looked at something. */
    void sentence(String words) {
        endSentence();
        sentence = "\"" + words + "\": ";
        seenBefore = seen;
    }

    private void endSentence() {
        if (seen == seenBefore) {
            tell("nothing was looked at");
        }
    }

    private void tell(String fault) {
        wrong++;
        System.out.println(sentence + fault);
    }

    void due(String call, long got, long want) {
        seen++;
        if (got != want) {
            tell(call + " answered " + got + ", due is " + want);
        }
    }

    void argument(String call, Call made) {
        thrown(call, made, IllegalArgumentException.class);
    }

    void state(String call, Call made) {
        thrown(call, made, IllegalStateException.class);
    }

    /** A text that is read on a new object, with as many rules. */
    void right(String text, int rules) {
        due("read of '" + text + "'", readOf(text), rules);
    }

    /** A text whose first wrong word, read on a new object, is at a place. */
    void wrong(String text, int place) {
        due("read of '" + text + "'", readOf(text), -1 - place);
    }

    private void thrown(String call, Call made, Class<? extends RuntimeException> want) {
        seen++;
        String got;
        try {
            got = "answered " + made.answer();
        } catch (RuntimeException e) {
            if (e.getClass() == want) {
                return;
            }
            got = "threw " + e;
        }
        tell(call + " " + got + ", due is " + want.getSimpleName());
    }

    void end() {
        endSentence();
        System.out.println(seen + " calls looked at, " + wrong + " not as due");
        if (wrong != 0 || seen == 0) {
            System.exit(1);
        }
    }

    /** Up to eight characters as bytes, the first one highest. */
    static long pack(String letters) {
        long packed = 0;
        for (int i = 0; i < letters.length(); i++) {
            packed = (packed << 8) | letters.charAt(i);
        }
        return packed;
    }

    static void say(PermitRules rules, String text) {
        for (int i = 0; i < text.length(); i += 8) {
            rules.say(pack(text.substring(i, Math.min(i + 8, text.length()))));
        }
    }

    /** What read answers for a text on a new object. */
    static int readOf(String text) {
        PermitRules rules = new PermitRules();
        say(rules, text);
        return rules.read();
    }

    /** A new object that has read the text. */
    static PermitRules of(String text) {
        PermitRules rules = new PermitRules();
        say(rules, text);
        int got = rules.read();
        if (got < 1) {
            throw new IllegalStateException("the test's own text is wrong: " + text + ": " + got);
        }
        return rules;
    }

    static String repeat(String part, int times) {
        StringBuilder all = new StringBuilder();
        for (int i = 0; i < times; i++) {
            all.append(part);
        }
        return all.toString();
    }
}
