/**
 * Building rules as texts, reckoned in exact fractions from facts: which are broken,
 * what is not known, and how little must change.
 */
public final class PermitRules {
    public static final int NONE = -1;
    public static final long NO = 1000000000000L;

    private static final int MOST_CHARACTERS = 800;
    private static final int MOST_WORDS = 120;
    private static final int MOST_RULES = 12;
    private static final int MOST_DEPTH = 8;
    private static final int MOST_DIGITS = 9;
    private static final int MOST_LETTERS = 8;
    private static final int MOST_FACTS = 40;
    private static final int MOST_VALUE = 1000000000;
    private static final int MOST_DISTANCE = 8;
    private static final int LAST_DAY = 1000000;

    /** A clause has three words at least, and a : or ! before it. */
    private static final int MOST_CLAUSES = MOST_WORDS / 4;

    /** On each level of parentheses a sum and a product may wait for the one number that comes. */
    private static final int MOST_PENDING = 2 * (MOST_DEPTH + 1) + 1;

    /** Euclid's way needs fewer than 93 steps for numbers of 64 bits. */
    private static final int MOST_DIVISIONS = 128;

    // Kinds of words; any other character is a kind of its own, and characters are 32 or more.
    private static final int END = 0;
    private static final int BAD = 1;
    private static final int NUMBER = 2;
    private static final int NAME = 3;
    private static final int AT_MOST = 4;
    private static final int AT_LEAST = 5;

    /** A step of reckoning that is no word of its own: the - before a first term. */
    private static final int NEGATED = 6;

    private static final int HOLDS = 0;
    private static final int BROKEN = 1;
    private static final int EXCEPTED = 2;
    private static final int OPEN = 3;
    private static final int LATER = 4;

    private static final int MISSING = 1;
    private static final int GREAT = 2;
    private static final int ZERO = 3;

    /** How many answers are kept of a rule: what is 0 .. 6. */
    private static final int ANSWERS = 7;

    /** The one 64-bit number whose sign cannot be changed. */
    private static final long LEAST = -9223372036854775808L;

    private final Text text = new Text();
    private final Reader reader = new Reader();
    private final Facts facts = new Facts();
    private final Judge judge = new Judge();
    private final long[] answers = new long[MOST_RULES * ANSWERS];

    private Book book = new Book();

    /** The next text is read into this one, so that a wrong text leaves the rules as they are. */
    private Book spare = new Book();

    private boolean asked = false;
    private int askedDay = 0;

    public PermitRules() {
    }

    public int say(long word) throws IllegalArgumentException, IllegalStateException {
        int more = charactersIn(word);
        if (more == NONE) {
            throw new IllegalArgumentException("a byte is no character");
        }
        if (text.length + more > MOST_CHARACTERS) {
            throw new IllegalStateException("the text would be too long");
        }
        for (int shift = 56; shift >= 0; shift -= 8) {
            int character = byteAt(word, shift);
            if (character != 0) {
                text.append(character);
            }
        }
        return text.length;
    }

    public int trim(int n) throws IllegalArgumentException {
        if (n < 0 || n > text.length) {
            throw new IllegalArgumentException("the text has not so many characters");
        }
        text.length -= n;
        return text.length;
    }

    public int read() {
        if (!reader.takes(text, spare)) {
            return -1 - reader.place();
        }
        Book old = book;
        book = spare;
        spare = old;
        text.length = 0;
        asked = false;
        return book.ruleCount;
    }

    public long fact(long name, int value) throws IllegalArgumentException, IllegalStateException {
        if (!isName(name)) {
            throw new IllegalArgumentException("no name");
        }
        if (!isValue(value)) {
            throw new IllegalArgumentException("no value");
        }
        int slot = facts.find(name);
        if (slot == NONE && facts.size >= MOST_FACTS) {
            throw new IllegalStateException("there are 40 facts");
        }
        if (slot == NONE) {
            facts.add(name, value);
            return NO;
        }
        long old = facts.valueAt(slot);
        facts.change(slot, value);
        return old;
    }

    public long forget(long name) throws IllegalArgumentException {
        if (!isName(name)) {
            throw new IllegalArgumentException("no name");
        }
        int slot = facts.find(name);
        if (slot == NONE) {
            return NO;
        }
        long old = facts.valueAt(slot);
        facts.drop(slot);
        return old;
    }

    public int run(int day) throws IllegalArgumentException {
        if (day < 0 || day > LAST_DAY) {
            throw new IllegalArgumentException("no day");
        }
        asked = true;
        askedDay = day;
        int brokenOnes = 0;
        for (int i = 0; i < book.ruleCount; i++) {
            judge.ask(book, facts, i, day);
            keepAnswers(i);
            if (judge.state == BROKEN) {
                brokenOnes++;
            }
        }
        return brokenOnes;
    }

    public int rule(long name) throws IllegalArgumentException {
        if (!isName(name)) {
            throw new IllegalArgumentException("no name");
        }
        return book.find(name);
    }

    public long told(int rule, int what) throws IllegalArgumentException, IllegalStateException {
        if (rule < 0 || rule >= book.ruleCount) {
            throw new IllegalArgumentException("no such rule");
        }
        if (what < 0 || what >= ANSWERS) {
            throw new IllegalArgumentException("no such answer");
        }
        if (!asked) {
            throw new IllegalStateException("the rule was not asked");
        }
        return answerOf(rule, what);
    }

    public int broken(int k) throws IllegalArgumentException, IllegalStateException {
        if (k < 0) {
            throw new IllegalArgumentException("below 0");
        }
        if (!asked) {
            throw new IllegalStateException("the rules were not asked");
        }
        int before = 0;
        for (int i = 0; i < book.ruleCount; i++) {
            if (answerOf(i, 0) == BROKEN) {
                if (before == k) {
                    return i;
                }
                before++;
            }
        }
        return NONE;
    }

    public long suggest(int rule, long name, int steps) throws IllegalArgumentException, IllegalStateException {
        if (rule < 0 || rule >= book.ruleCount) {
            throw new IllegalArgumentException("no such rule");
        }
        if (steps < 0 || steps > MOST_DISTANCE) {
            throw new IllegalArgumentException("no such steps");
        }
        int slot = isName(name) ? facts.find(name) : NONE;
        if (slot == NONE) {
            throw new IllegalArgumentException("no such fact");
        }
        if (!asked) {
            throw new IllegalStateException("the rules were not asked");
        }
        int own = facts.valueAt(slot);
        for (int i = 1; i <= steps; i++) {
            if (wouldDo(rule, slot, own + i)) {
                return own + i;
            }
            if (wouldDo(rule, slot, own - i)) {
                return own - i;
            }
        }
        return NO;
    }

    public int count(int what) throws IllegalArgumentException {
        switch (what) {
            case 0:
                return text.length;
            case 1:
                return book.ruleCount;
            case 2:
                return facts.size;
            case 3:
                return book.clauseCount - book.ruleCount;
            default:
                throw new IllegalArgumentException("no such count");
        }
    }

    /** The fact has its own value again afterwards: a suggestion changes nothing. */
    private boolean wouldDo(int ruleNumber, int slot, int value) {
        if (!isValue(value)) {
            return false;
        }
        int own = facts.valueAt(slot);
        facts.change(slot, value);
        judge.ask(book, facts, ruleNumber, askedDay);
        facts.change(slot, own);
        return judge.state == HOLDS || judge.state == EXCEPTED;
    }

    private void keepAnswers(int ruleNumber) {
        keepAnswer(ruleNumber, 0, judge.state);
        keepAnswer(ruleNumber, 1, judge.leftUpper);
        keepAnswer(ruleNumber, 2, judge.leftLower);
        keepAnswer(ruleNumber, 3, judge.rightUpper);
        keepAnswer(ruleNumber, 4, judge.rightLower);
        keepAnswer(ruleNumber, 5, judge.reckoner.why);
        keepAnswer(ruleNumber, 6, judge.reckoner.missing);
    }

    private void keepAnswer(int ruleNumber, int what, long answer) {
        int index = ruleNumber * ANSWERS + what;
        if (index >= 0 && index < answers.length) {
            answers[index] = answer;
        }
    }

    private long answerOf(int ruleNumber, int what) {
        int index = ruleNumber * ANSWERS + what;
        return index >= 0 && index < answers.length ? answers[index] : 0;
    }

    private static int byteAt(long word, int shift) {
        return (int) (word >>> shift) & 255;
    }

    /** How many characters a word brings; NONE if one of its bytes is no character. */
    private static int charactersIn(long word) {
        int characters = 0;
        for (int shift = 56; shift >= 0; shift -= 8) {
            int character = byteAt(word, shift);
            if (character != 0) {
                if (character < 32 || character > 126) {
                    return NONE;
                }
                characters++;
            }
        }
        return characters;
    }

    private static boolean isName(long name) {
        boolean begun = false;
        for (int shift = 56; shift >= 0; shift -= 8) {
            int letter = byteAt(name, shift);
            if (letter != 0 || begun) {
                if (!isLetter(letter)) {
                    return false;
                }
                begun = true;
            }
        }
        return begun;
    }

    private static boolean isValue(int value) {
        return value >= -MOST_VALUE && value <= MOST_VALUE;
    }

    private static boolean isLetter(int character) {
        return character >= 'a' && character <= 'z';
    }

    private static boolean isDigit(int character) {
        return character >= '0' && character <= '9';
    }

    /** The characters that were said and not yet read. */
    private static final class Text {
        private final byte[] characters = new byte[MOST_CHARACTERS];
        private int length = 0;

        /** 0, which is no character of a text, behind its end. */
        int at(int place) {
            return place >= 0 && place < length && place < characters.length ? characters[place] : 0;
        }

        void append(int character) {
            if (length >= 0 && length < characters.length) {
                characters[length] = (byte) character;
                length++;
            }
        }
    }

    /** The words of a text, up to its end or to one that is too long or one too many. */
    private static final class Words {
        private final int[] kinds = new int[MOST_WORDS + 1];
        private final int[] places = new int[MOST_WORDS + 1];
        private final long[] worths = new long[MOST_WORDS + 1];
        private int current = 0;

        void split(Text text) {
            current = 0;
            int place = 0;
            for (int i = 0; i <= MOST_WORDS && i < kinds.length && i < places.length && i < worths.length; i++) {
                place = behindBlanks(text, place);
                int behind = behindWord(text, place);
                int kind = kindOf(text, place, behind);
                if (i == MOST_WORDS && kind != END) {
                    kind = BAD;
                }
                kinds[i] = kind;
                places[i] = place;
                worths[i] = worthOf(text, place, behind, kind);
                if (kind == END || kind == BAD) {
                    return;
                }
                place = behind;
            }
        }

        int kind() {
            return current >= 0 && current < kinds.length ? kinds[current] : BAD;
        }

        int place() {
            return current >= 0 && current < places.length ? places[current] : 0;
        }

        long worth() {
            return current >= 0 && current < worths.length ? worths[current] : 0;
        }

        void advance() {
            if (current < MOST_WORDS) {
                current++;
            }
        }

        /** Goes on if the current word is of a kind. The last place has an end or a wrong word. */
        boolean pass(int kind) {
            if (current < 0 || current >= MOST_WORDS || current >= kinds.length || kinds[current] != kind) {
                return false;
            }
            current++;
            return true;
        }

        private static int behindBlanks(Text text, int from) {
            int place = from;
            while (place < MOST_CHARACTERS && text.at(place) == ' ') {
                place++;
            }
            return place;
        }

        private static int behindWord(Text text, int from) {
            int first = text.at(from);
            int place = from + 1;
            if (isDigit(first)) {
                while (place < MOST_CHARACTERS && isDigit(text.at(place))) {
                    place++;
                }
            } else if (isLetter(first)) {
                while (place < MOST_CHARACTERS && isLetter(text.at(place))) {
                    place++;
                }
            } else if ((first == '<' || first == '>') && text.at(place) == '=') {
                place++;
            }
            return place;
        }

        private static int kindOf(Text text, int from, int behind) {
            int first = text.at(from);
            if (first == 0) {
                return END;
            }
            if (isDigit(first)) {
                return behind - from <= MOST_DIGITS ? NUMBER : BAD;
            }
            if (isLetter(first)) {
                return behind - from <= MOST_LETTERS ? NAME : BAD;
            }
            if (behind - from == 2) {
                return first == '<' ? AT_MOST : AT_LEAST;
            }
            // A character that is in no word fits nowhere, and so is wrong where it stands.
            return first;
        }

        private static long worthOf(Text text, int from, int behind, int kind) {
            long worth = 0;
            if (kind == NUMBER) {
                for (int i = from; i < behind; i++) {
                    worth = worth * 10 + (text.at(i) - '0');
                }
            } else if (kind == NAME) {
                for (int i = from; i < behind; i++) {
                    worth = (worth << 8) | text.at(i);
                }
            }
            return worth;
        }
    }

    /**
     * The rules that a text says. Their clauses stand one behind the other, and so do the steps
     * that reckon the sides of these: a number, a name, or what joins the two got last.
     */
    private static final class Book {
        private final long[] names = new long[MOST_RULES];
        private final long[] days = new long[MOST_RULES];
        private final int[] clausesBehind = new int[MOST_RULES];
        private int ruleCount = 0;

        private final int[] signs = new int[MOST_CLAUSES];
        private final int[] stepsBehindLeft = new int[MOST_CLAUSES];
        private final int[] stepsBehindRight = new int[MOST_CLAUSES];
        private int clauseCount = 0;

        private final int[] kinds = new int[MOST_WORDS];
        private final long[] worths = new long[MOST_WORDS];
        private int stepCount = 0;

        void empty() {
            ruleCount = 0;
            clauseCount = 0;
            stepCount = 0;
        }

        int find(long name) {
            for (int i = 0; i < ruleCount && i < names.length; i++) {
                if (names[i] == name) {
                    return i;
                }
            }
            return NONE;
        }

        /** Whether one more rule can have the name. */
        boolean hasRoomFor(long name) {
            return ruleCount < MOST_RULES && find(name) == NONE;
        }

        /** The clauses that came since the rule before it are the rule's. */
        void addRule(long name, long day) {
            int i = ruleCount;
            if (i >= 0 && i < names.length && i < days.length && i < clausesBehind.length) {
                names[i] = name;
                days[i] = day;
                clausesBehind[i] = clauseCount;
                ruleCount++;
            }
        }

        /** The steps that came since the clause before it are the clause's. */
        void addClause(int sign, int behindLeft) {
            int i = clauseCount;
            if (i >= 0 && i < signs.length && i < stepsBehindLeft.length && i < stepsBehindRight.length) {
                signs[i] = sign;
                stepsBehindLeft[i] = behindLeft;
                stepsBehindRight[i] = stepCount;
                clauseCount++;
            }
        }

        void addStep(int kind, long worth) {
            int i = stepCount;
            if (i >= 0 && i < kinds.length && i < worths.length) {
                kinds[i] = kind;
                worths[i] = worth;
                stepCount++;
            }
        }

        long dayOf(int number) {
            return number >= 0 && number < days.length ? days[number] : 0;
        }

        int firstClauseOf(int number) {
            return clauseBehind(number - 1);
        }

        int clauseBehind(int number) {
            return number >= 0 && number < clausesBehind.length ? clausesBehind[number] : 0;
        }

        int signOf(int clause) {
            return clause >= 0 && clause < signs.length ? signs[clause] : BAD;
        }

        int firstStepOf(int clause) {
            return stepBehindRight(clause - 1);
        }

        int stepBehindLeft(int clause) {
            return clause >= 0 && clause < stepsBehindLeft.length ? stepsBehindLeft[clause] : 0;
        }

        int stepBehindRight(int clause) {
            return clause >= 0 && clause < stepsBehindRight.length ? stepsBehindRight[clause] : 0;
        }

        int kindAt(int step) {
            return step >= 0 && step < kinds.length ? kinds[step] : BAD;
        }

        long worthAt(int step) {
            return step >= 0 && step < worths.length ? worths[step] : 0;
        }
    }

    /** Reads words into a book. Where a method answers false, the current word is the wrong one. */
    private static final class Reader {
        private final Words words = new Words();

        boolean takes(Text text, Book book) {
            words.split(text);
            book.empty();
            // One more than there may be: the name of that one is told as wrong.
            for (int i = 0; i <= MOST_RULES; i++) {
                if (!takesRule(book)) {
                    return false;
                }
                if (words.kind() == END) {
                    return true;
                }
                if (!words.pass(';')) {
                    return false;
                }
                if (words.kind() == END) {
                    return true;
                }
            }
            return false;
        }

        int place() {
            return words.place();
        }

        private boolean takesRule(Book book) {
            long name = words.worth();
            if (words.kind() != NAME || !book.hasRoomFor(name)) {
                return false;
            }
            words.advance();
            if (!words.pass(':') || !takesClause(book)) {
                return false;
            }
            for (int i = 0; i < MOST_WORDS && words.kind() == '!'; i++) {
                words.advance();
                if (!takesClause(book)) {
                    return false;
                }
            }
            long day = 0;
            if (words.pass('@')) {
                day = words.worth();
                if (!words.pass(NUMBER)) {
                    return false;
                }
            }
            book.addRule(name, day);
            return true;
        }

        private boolean takesClause(Book book) {
            if (!takesSide(book, 0)) {
                return false;
            }
            int sign = words.kind();
            if (!compares(sign)) {
                return false;
            }
            words.advance();
            int behindLeft = book.stepCount;
            if (!takesSide(book, 0)) {
                return false;
            }
            book.addClause(sign, behindLeft);
            return true;
        }

        private boolean takesSide(Book book, int depth) {
            boolean negated = words.pass('-');
            if (!takesTerm(book, depth)) {
                return false;
            }
            if (negated) {
                book.addStep(NEGATED, 0);
            }
            for (int i = 0; i < MOST_WORDS && (words.kind() == '+' || words.kind() == '-'); i++) {
                int sign = words.kind();
                words.advance();
                if (!takesTerm(book, depth)) {
                    return false;
                }
                book.addStep(sign, 0);
            }
            return true;
        }

        private boolean takesTerm(Book book, int depth) {
            if (!takesFactor(book, depth)) {
                return false;
            }
            for (int i = 0; i < MOST_WORDS && (words.kind() == '*' || words.kind() == '/'); i++) {
                int sign = words.kind();
                words.advance();
                if (!takesFactor(book, depth)) {
                    return false;
                }
                book.addStep(sign, 0);
            }
            return true;
        }

        private boolean takesFactor(Book book, int depth) {
            int kind = words.kind();
            if (kind == NUMBER || kind == NAME) {
                book.addStep(kind, words.worth());
                words.advance();
                return true;
            }
            if (depth >= MOST_DEPTH || !words.pass('(')) {
                return false;
            }
            return takesSide(book, depth + 1) && words.pass(')');
        }

        private static boolean compares(int kind) {
            return kind == '<' || kind == AT_MOST || kind == '=' || kind == AT_LEAST || kind == '>';
        }
    }

    /** The facts, in no order. */
    private static final class Facts {
        private final long[] names = new long[MOST_FACTS];
        private final int[] values = new int[MOST_FACTS];
        private int size = 0;

        int find(long name) {
            for (int i = 0; i < size && i < names.length; i++) {
                if (names[i] == name) {
                    return i;
                }
            }
            return NONE;
        }

        int valueAt(int slot) {
            return slot >= 0 && slot < values.length ? values[slot] : 0;
        }

        void change(int slot, int value) {
            if (slot >= 0 && slot < values.length) {
                values[slot] = value;
            }
        }

        void add(long name, int value) {
            if (size >= 0 && size < names.length && size < values.length) {
                names[size] = name;
                values[size] = value;
                size++;
            }
        }

        void drop(int slot) {
            int last = size - 1;
            if (slot >= 0 && slot <= last && last < names.length && last < values.length) {
                names[slot] = names[last];
                values[slot] = values[last];
                size = last;
            }
        }
    }

    /** Reckons in fractions; once why is not 0, nothing more is reckoned. */
    private static final class Reckoner {
        private final long[] uppers = new long[MOST_PENDING];
        private final long[] lowers = new long[MOST_PENDING];
        private int pending = 0;
        private int why = 0;
        private long missing = 0;

        void restart() {
            why = 0;
            missing = 0;
        }

        void reckonSide(Book book, Facts facts, int from, int behind) {
            pending = 0;
            for (int i = from; i < behind && why == 0; i++) {
                int kind = book.kindAt(i);
                if (kind == NUMBER) {
                    push(book.worthAt(i), 1);
                } else if (kind == NAME) {
                    pushFact(facts, book.worthAt(i));
                } else {
                    join(kind);
                }
            }
        }

        /** 0, as is the lower number, of a side that was not reckoned. */
        long upper() {
            return why == 0 && pending > 0 && pending <= uppers.length ? uppers[pending - 1] : 0;
        }

        long lower() {
            return why == 0 && pending > 0 && pending <= lowers.length ? lowers[pending - 1] : 0;
        }

        long product(long a, long b) {
            if (a == 0 || b == 0) {
                return 0;
            }
            long got = a * b;
            // LEAST by -1 is the one quotient that is no 64-bit number.
            boolean fits = b == -1 ? a != LEAST : got / b == a;
            if (!fits) {
                why = GREAT;
            }
            return got;
        }

        private long sum(long a, long b) {
            long got = a + b;
            if (((a ^ got) & (b ^ got)) < 0) {
                why = GREAT;
            }
            return got;
        }

        private long difference(long a, long b) {
            long got = a - b;
            if (((a ^ b) & (a ^ got)) < 0) {
                why = GREAT;
            }
            return got;
        }

        private void push(long upper, long lower) {
            if (pending >= 0 && pending < uppers.length && pending < lowers.length) {
                uppers[pending] = upper;
                lowers[pending] = lower;
                pending++;
            }
        }

        private void pushFact(Facts facts, long name) {
            int slot = facts.find(name);
            if (slot == NONE) {
                why = MISSING;
                missing = name;
            } else {
                push(facts.valueAt(slot), 1);
            }
        }

        /** Joins what was got last with what was got before it, or negates it: 0 less it. */
        private void join(int kind) {
            long a = 0;
            long b = 1;
            long c = upper();
            long d = lower();
            pending--;
            if (kind != NEGATED) {
                a = upper();
                b = lower();
                pending--;
            }
            if (kind == '*') {
                settle(product(a, c), product(b, d));
            } else if (kind == '+') {
                settle(sum(product(a, d), product(c, b)), product(b, d));
            } else if (kind == '-' || kind == NEGATED) {
                settle(difference(product(a, d), product(c, b)), product(b, d));
            } else if (c == 0) {
                why = ZERO;
            } else {
                settle(product(a, d), product(b, c));
            }
        }

        private void settle(long upper, long lower) {
            if (why != 0 || lower == 0) {
                return;
            }
            long common = commonDivisor(upper, lower);
            // Dividing by the divisor below 0 changes both signs too, as a lower number below 0 asks.
            long divisor = lower < 0 ? common : -common;
            if (divisor == -1 && (upper == LEAST || lower == LEAST)) {
                why = GREAT;
            } else if (divisor != 0) {
                push(upper / divisor, lower / divisor);
            }
        }

        /** The greatest one, but below 0, since 2^63 may be it and is no 64-bit number. */
        private static long commonDivisor(long upper, long lower) {
            long a = upper > 0 ? -upper : upper;
            long b = lower > 0 ? -lower : lower;
            for (int i = 0; i < MOST_DIVISIONS && b != 0; i++) {
                long rest = a % b;
                a = b;
                b = rest;
            }
            return a;
        }
    }

    /** Asks a rule on a day, and has the answers until it asks again. */
    private static final class Judge {
        private final Reckoner reckoner = new Reckoner();
        private int state = HOLDS;
        private long leftUpper = 0;
        private long leftLower = 0;
        private long rightUpper = 0;
        private long rightLower = 0;

        void ask(Book book, Facts facts, int number, int day) {
            reckoner.restart();
            leftUpper = 0;
            leftLower = 0;
            rightUpper = 0;
            rightLower = 0;
            if (day < book.dayOf(number)) {
                state = LATER;
                return;
            }
            int first = book.firstClauseOf(number);
            int behind = book.clauseBehind(number);
            state = holds(book, facts, first, true) ? HOLDS : BROKEN;
            boolean more = state == BROKEN;
            for (int i = first + 1; i < behind && more && reckoner.why == 0; i++) {
                more = holds(book, facts, i, false);
                state = more ? EXCEPTED : BROKEN;
            }
            if (reckoner.why != 0) {
                state = OPEN;
            }
        }

        /** The sides are kept of a rule's own clause, and not of its exceptions. */
        private boolean holds(Book book, Facts facts, int clause, boolean keep) {
            int behindLeft = book.stepBehindLeft(clause);
            reckoner.reckonSide(book, facts, book.firstStepOf(clause), behindLeft);
            long a = reckoner.upper();
            long b = reckoner.lower();
            if (reckoner.why == 0) {
                reckoner.reckonSide(book, facts, behindLeft, book.stepBehindRight(clause));
            }
            long c = reckoner.upper();
            long d = reckoner.lower();
            if (keep) {
                leftUpper = a;
                leftLower = b;
                rightUpper = c;
                rightLower = d;
            }
            if (reckoner.why != 0) {
                return false;
            }
            return compare(book.signOf(clause), reckoner.product(a, d), reckoner.product(c, b));
        }

        private static boolean compare(int sign, long left, long right) {
            switch (sign) {
                case '<':
                    return left < right;
                case AT_MOST:
                    return left <= right;
                case '=':
                    return left == right;
                case AT_LEAST:
                    return left >= right;
                case '>':
                    return left > right;
                default:
                    return false;
            }
        }
    }
}
