import java.math.BigInteger;
import java.util.ArrayList;
import java.util.List;
import java.util.TreeMap;

/**
 * The document once more, written in another way than the class: words by a state machine,
 * sides reckoned from the words themselves in numbers without bounds.
 */
final class Model {
    private static final BigInteger LEAST = BigInteger.valueOf(Long.MIN_VALUE);
    private static final BigInteger GREATEST = BigInteger.valueOf(Long.MAX_VALUE);

    private static final class Open extends RuntimeException {
        private static final long serialVersionUID = 1L;
        final int why;
        final String name;

        Open(int why, String name) {
            this.why = why;
            this.name = name;
        }
    }

    private static final class Fraction {
        final BigInteger upper;
        final BigInteger lower;

        Fraction(BigInteger upper, BigInteger lower) {
            this.upper = upper;
            this.lower = lower;
        }
    }

    private static final class Rule {
        String name;
        long day;
        final List<List<String>> clauses = new ArrayList<>();
        long[] answers;
    }

    private String text = "";
    private List<Rule> rules = new ArrayList<>();
    private final TreeMap<String, Integer> facts = new TreeMap<>();
    private int askedDay = -1;

    int say(long word) {
        StringBuilder more = new StringBuilder();
        for (int i = 7; i >= 0; i--) {
            int c = (int) ((word >> (8 * i)) & 0xFF);
            argument(c == 0 || c >= 32 && c <= 126);
            if (c != 0) {
                more.append((char) c);
            }
        }
        state(text.length() + more.length() <= 800);
        text += more;
        return text.length();
    }

    int trim(int n) {
        argument(n >= 0 && n <= text.length());
        text = text.substring(0, text.length() - n);
        return text.length();
    }

    int read() {
        List<Rule> said = new ArrayList<>();
        int wrong = firstWrong(text, said);
        if (wrong >= 0) {
            return -1 - wrong;
        }
        rules = said;
        text = "";
        askedDay = -1;
        return rules.size();
    }

    long fact(long packed, int value) {
        String name = name(packed);
        argument(name != null && Math.abs((long) value) <= 1000000000L);
        state(facts.containsKey(name) || facts.size() < 40);
        Integer old = facts.put(name, value);
        return old == null ? PermitRules.NO : old;
    }

    long forget(long packed) {
        String name = name(packed);
        argument(name != null);
        Integer old = facts.remove(name);
        return old == null ? PermitRules.NO : old;
    }

    int run(int day) {
        argument(day >= 0 && day <= 1000000);
        askedDay = day;
        int broken = 0;
        for (Rule rule : rules) {
            rule.answers = ask(rule, day);
            broken += rule.answers[0] == 1 ? 1 : 0;
        }
        return broken;
    }

    int rule(long packed) {
        String name = name(packed);
        argument(name != null);
        for (int i = 0; i < rules.size(); i++) {
            if (rules.get(i).name.equals(name)) {
                return i;
            }
        }
        return -1;
    }

    long told(int rule, int what) {
        argument(rule >= 0 && rule < rules.size() && what >= 0 && what <= 6);
        state(askedDay >= 0);
        return rules.get(rule).answers[what];
    }

    int broken(int k) {
        argument(k >= 0);
        state(askedDay >= 0);
        List<Integer> all = new ArrayList<>();
        for (int i = 0; i < rules.size(); i++) {
            if (rules.get(i).answers[0] == 1) {
                all.add(i);
            }
        }
        return k < all.size() ? all.get(k) : -1;
    }

    long suggest(int rule, long packed, int steps) {
        String name = name(packed);
        argument(rule >= 0 && rule < rules.size() && steps >= 0 && steps <= 8);
        argument(name != null && facts.containsKey(name));
        state(askedDay >= 0);
        int own = facts.get(name);
        long best = PermitRules.NO;
        for (long value = own - steps; value <= own + steps; value++) {
            if (value == own || Math.abs(value) > 1000000000L) {
                continue;
            }
            facts.put(name, (int) value);
            long got = ask(rules.get(rule), askedDay)[0];
            boolean nearer = best == PermitRules.NO || Math.abs(value - own) <= Math.abs(best - own);
            if ((got == 0 || got == 2) && nearer) {
                best = value;
            }
        }
        facts.put(name, own);
        return best;
    }

    int count(int what) {
        argument(what >= 0 && what <= 3);
        int exceptions = 0;
        for (Rule rule : rules) {
            exceptions += rule.clauses.size() - 1;
        }
        return new int[] {text.length(), rules.size(), facts.size(), exceptions}[what];
    }

    private static void argument(boolean right) {
        if (!right) {
            throw new IllegalArgumentException();
        }
    }

    private static void state(boolean right) {
        if (!right) {
            throw new IllegalStateException();
        }
    }

    private static String name(long packed) {
        StringBuilder name = new StringBuilder();
        for (long rest = packed; rest != 0; rest >>>= 8) {
            name.insert(0, (char) (rest & 0xFF));
        }
        return name.toString().matches("[a-z]{1,8}") ? name.toString() : null;
    }

    private static String wordAt(String text, int place) {
        int end = place + 1;
        char c = text.charAt(place);
        String run = c >= 'a' && c <= 'z' ? "[a-z]" : c >= '0' && c <= '9' ? "[0-9]" : null;
        if (run != null) {
            while (end < text.length() && text.substring(end, end + 1).matches(run)) {
                end++;
            }
        } else if ((c == '<' || c == '>') && text.startsWith("=", end)) {
            end++;
        }
        return text.substring(place, end);
    }

    /** What may come: N a rule's name, : itself, S a side, O an operand, A what follows one, D a day, E what follows it. */
    private static int firstWrong(String text, List<Rule> said) {
        char may = 'N';
        int depth = 0;
        boolean right = false;
        int words = 0;
        Rule rule = null;
        List<String> clause = null;
        int place = 0;
        while (true) {
            while (place < text.length() && text.charAt(place) == ' ') {
                place++;
            }
            boolean whole = may == 'A' && right && depth == 0 || may == 'E';
            if (place == text.length()) {
                return whole || may == 'N' && rule != null ? -1 : place;
            }
            String word = wordAt(text, place);
            boolean isName = word.matches("[a-z]{1,8}");
            boolean isNumber = word.matches("[0-9]{1,9}");
            if (++words > 120) {
                return place;
            }
            if (may == 'N') {
                for (Rule other : said) {
                    isName &= !other.name.equals(word);
                }
                if (!isName || said.size() == 12) {
                    return place;
                }
                rule = new Rule();
                rule.name = word;
                said.add(rule);
                may = ':';
            } else if (may == ':') {
                if (!word.equals(":")) {
                    return place;
                }
                clause = new ArrayList<>();
                rule.clauses.add(clause);
                right = false;
                may = 'S';
            } else if (may == 'D') {
                if (!isNumber) {
                    return place;
                }
                rule.day = Long.parseLong(word);
                may = 'E';
            } else if (may == 'S' || may == 'O') {
                if (isName || isNumber) {
                    may = 'A';
                } else if (word.equals("(") && depth < 8) {
                    depth++;
                    may = 'S';
                } else if (word.equals("-") && may == 'S') {
                    may = 'O';
                } else {
                    return place;
                }
                clause.add(word);
            } else if (may == 'A' && word.matches("[-+*/]")) {
                clause.add(word);
                may = 'O';
            } else if (may == 'A' && depth > 0 && word.equals(")")) {
                clause.add(word);
                depth--;
            } else if (may == 'A' && depth == 0 && !right && word.matches("<|<=|=|>=|>")) {
                clause.add(word);
                right = true;
                may = 'S';
            } else if (may == 'A' && whole && word.equals("!")) {
                clause = new ArrayList<>();
                rule.clauses.add(clause);
                right = false;
                may = 'S';
            } else if (may == 'A' && whole && word.equals("@")) {
                may = 'D';
            } else if (whole && word.equals(";")) {
                may = 'N';
            } else {
                return place;
            }
            place += word.length();
        }
    }

    private long[] ask(Rule rule, int day) {
        long[] answers = new long[7];
        if (day < rule.day) {
            answers[0] = 4;
            return answers;
        }
        try {
            if (holds(rule.clauses.get(0), answers)) {
                return answers;
            }
            answers[0] = rule.clauses.size() > 1 ? 2 : 1;
            for (List<String> exception : rule.clauses.subList(1, rule.clauses.size())) {
                if (!holds(exception, new long[7])) {
                    answers[0] = 1;
                    break;
                }
            }
        } catch (Open open) {
            answers[0] = 3;
            answers[5] = open.why;
            answers[6] = open.name == null ? 0 : Check.pack(open.name);
        }
        return answers;
    }

    private boolean holds(List<String> clause, long[] answers) {
        int at = 0;
        while (!clause.get(at).matches("<|<=|=|>=|>")) {
            at++;
        }
        Fraction left = side(clause.subList(0, at));
        answers[1] = left.upper.longValueExact();
        answers[2] = left.lower.longValueExact();
        Fraction right = side(clause.subList(at + 1, clause.size()));
        answers[3] = right.upper.longValueExact();
        answers[4] = right.lower.longValueExact();
        int order = fit(left.upper.multiply(right.lower)).compareTo(fit(right.upper.multiply(left.lower)));
        String sign = clause.get(at);
        return order == 0 && sign.contains("=") || order < 0 && sign.contains("<") || order > 0 && sign.contains(">");
    }

    /** A side, by its last + or - outside parentheses, else by its last * or /; the left part is reckoned first. */
    private Fraction side(List<String> words) {
        for (String signs : new String[] {"+-", "*/"}) {
            int depth = 0;
            for (int i = words.size() - 1; i >= 0; i--) {
                String word = words.get(i);
                depth += word.equals(")") ? 1 : word.equals("(") ? -1 : 0;
                if (depth == 0 && word.length() == 1 && signs.contains(word)) {
                    Fraction left = i == 0 ? whole(0) : side(words.subList(0, i));
                    return join(word.charAt(0), left, side(words.subList(i + 1, words.size())));
                }
            }
        }
        String word = words.get(0);
        if (word.equals("(")) {
            return side(words.subList(1, words.size() - 1));
        }
        if (Character.isDigit(word.charAt(0))) {
            return whole(Long.parseLong(word));
        }
        Integer value = facts.get(word);
        if (value == null) {
            throw new Open(1, word);
        }
        return whole(value);
    }

    private static Fraction whole(long n) {
        return new Fraction(BigInteger.valueOf(n), BigInteger.ONE);
    }

    private static BigInteger fit(BigInteger n) {
        if (n.compareTo(LEAST) < 0 || n.compareTo(GREATEST) > 0) {
            throw new Open(2, null);
        }
        return n;
    }

    private static Fraction join(char sign, Fraction x, Fraction y) {
        BigInteger upper;
        BigInteger lower;
        if (sign == '*') {
            upper = fit(x.upper.multiply(y.upper));
            lower = fit(x.lower.multiply(y.lower));
        } else if (sign == '/') {
            if (y.upper.signum() == 0) {
                throw new Open(3, null);
            }
            upper = fit(x.upper.multiply(y.lower));
            lower = fit(x.lower.multiply(y.upper));
        } else {
            BigInteger first = fit(x.upper.multiply(y.lower));
            BigInteger second = fit(y.upper.multiply(x.lower));
            upper = fit(sign == '+' ? first.add(second) : first.subtract(second));
            lower = fit(x.lower.multiply(y.lower));
        }
        BigInteger common = upper.gcd(lower);
        upper = upper.divide(common);
        lower = lower.divide(common);
        return lower.signum() < 0 ? new Fraction(fit(upper.negate()), fit(lower.negate())) : new Fraction(upper, lower);
    }
}
