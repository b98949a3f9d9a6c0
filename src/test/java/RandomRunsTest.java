import java.util.Arrays;
import java.util.Random;

/** Promises 1 to 12 together: long runs of calls, the same every time, against the model. */
public final class RandomRunsTest {
    private static final int RUNS = 1500;
    private static final int CALLS = 500;
    private static final String[] NAMES = {"a", "b", "c", "x", "y", "z", "aa", "height", "distance", "zzzzzzzz"};
    private static final String[] NUMBERS = {"0", "1", "2", "3", "7", "10", "32", "999999999", "536870912", "000000004"};
    /** Sides near the least and the greatest 64-bit number. */
    private static final String[] GREAT_ONES = {"(0-536870912)*536870912*32", "536870912*536870912*16",
        "(-1-(0-536870912)*536870912*32)", "(536870912*536870912*16/3)", "1/(536870912*536870912*31)",
        "(0-536870912)*536870912*32/3", "(2/((0-536870912)*536870912*32))", "(0-1)", "(1/3)", "999999999*999999999*9"};
    private static final String ODD = "ab1<=>;:!@()+-*/ ~A.9";

    private final Random random;
    private final PermitRules rules = new PermitRules();
    private final Model model = new Model();
    private final StringBuilder said = new StringBuilder();
    private int calls = 0;
    private boolean great = false;

    private RandomRunsTest(long seed) {
        random = new Random(seed);
    }

    public static void main(String[] args) {
        Check check = Check.begin();
        long[] states = new long[5];
        long[] reasons = new long[4];
        for (int run = 0; run < RUNS; run++) {
            new RandomRunsTest(run).go(check, run, states, reasons);
        }
        System.out.println("states " + Arrays.toString(states) + ", reasons " + Arrays.toString(reasons));
        // The runs are worth nothing if they do not come by every state and every reason.
        for (int i = 0; i < states.length; i++) {
            check.due("state " + i + " was met", states[i] > 200 ? 1 : 0, 1);
        }
        for (int i = 0; i < reasons.length; i++) {
            check.due("reason " + i + " was met", reasons[i] > 200 ? 1 : 0, 1);
        }
        check.end();
    }

    private void go(Check check, int run, long[] states, long[] reasons) {
        if (run % 4 != 0) {
            knowAllNames(check, run);
        }
        while (calls < CALLS) {
            call(check, run);
            for (int rule = 0; rule < model.count(1) && calls < CALLS && random.nextInt(3) == 0; rule++) {
                for (int what = 0; what <= 6; what++) {
                    long got = told(check, run, rule, what);
                    if (got >= 0 && what == 0) {
                        states[(int) got]++;
                    }
                    if (got >= 0 && what == 5) {
                        reasons[(int) got]++;
                    }
                }
            }
        }
    }

    /** Without this most rules would only ever be open, for a name. */
    private void knowAllNames(Check check, int run) {
        for (String letters : NAMES) {
            long name = Check.pack(letters);
            int value = random.nextInt(21) - 10;
            same(check, run, "fact(" + letters + ", " + value + ")", () -> rules.fact(name, value), () -> model.fact(name, value));
        }
    }

    private long told(Check check, int run, int rule, int what) {
        return same(check, run, "told(" + rule + ", " + what + ")",
            () -> rules.told(rule, what), () -> model.told(rule, what));
    }

    /** The answer, or -1 (an answer that told has for 1 and 3 alone) if both threw the same. */
    private long same(Check check, int run, String call, Check.Call own, Check.Call other) {
        calls++;
        long[] got = outcome(own);
        long[] want = outcome(other);
        check.due("run " + run + ", call " + calls + ": " + call + ": what it throws", got[0], want[0]);
        check.due("run " + run + ", call " + calls + ": " + call, got[1], want[1]);
        return got[0] == 0 ? got[1] : -1;
    }

    private static long[] outcome(Check.Call call) {
        try {
            return new long[] {0, call.answer()};
        } catch (IllegalArgumentException e) {
            return new long[] {1, 0};
        } catch (IllegalStateException e) {
            return new long[] {2, 0};
        } catch (RuntimeException e) {
            return new long[] {3, 0};
        }
    }

    private void call(Check check, int run) {
        int which = random.nextInt(20);
        if (which < 3) {
            sayAndRead(check, run);
        } else if (which < 9) {
            long name = name();
            int value = value();
            same(check, run, "fact(" + name + ", " + value + ")", () -> rules.fact(name, value), () -> model.fact(name, value));
        } else if (which == 9) {
            long name = name();
            same(check, run, "forget(" + name + ")", () -> rules.forget(name), () -> model.forget(name));
        } else if (which < 14) {
            int day = random.nextInt(8) == 0 ? random.nextInt() : random.nextInt(8);
            same(check, run, "run(" + day + ")", () -> rules.run(day), () -> model.run(day));
        } else if (which == 14) {
            long name = name();
            same(check, run, "rule(" + name + ")", () -> rules.rule(name), () -> model.rule(name));
        } else if (which == 15) {
            int k = random.nextInt(8) - 1;
            same(check, run, "broken(" + k + ")", () -> rules.broken(k), () -> model.broken(k));
        } else if (which < 18) {
            int rule = random.nextInt(14) - 1;
            long name = name();
            int steps = random.nextInt(11) - 1;
            same(check, run, "suggest(" + rule + ", " + name + ", " + steps + ")",
                () -> rules.suggest(rule, name, steps), () -> model.suggest(rule, name, steps));
        } else if (which == 18) {
            int what = random.nextInt(6) - 1;
            same(check, run, "count(" + what + ")", () -> rules.count(what), () -> model.count(what));
        } else {
            told(check, run, random.nextInt(14) - 1, random.nextInt(9) - 1);
        }
    }

    private void sayAndRead(Check check, int run) {
        if (random.nextInt(4) != 0) {
            trim(check, run, model.count(0));
        } else if (random.nextInt(4) == 0) {
            trim(check, run, random.nextInt(20) - 2);
        }
        said.setLength(0);
        great = random.nextInt(3) == 0;
        writeRules();
        spoil();
        for (int i = 0; i < said.length(); i += 8) {
            say(check, run, Check.pack(said.substring(i, Math.min(i + 8, said.length()))));
        }
        if (random.nextInt(20) == 0) {
            say(check, run, random.nextLong());
        }
        same(check, run, "read() of '" + said + "'", rules::read, model::read);
    }

    private void say(Check check, int run, long word) {
        same(check, run, "say(" + word + ")", () -> rules.say(word), () -> model.say(word));
    }

    private void trim(Check check, int run, int n) {
        same(check, run, "trim(" + n + ")", () -> rules.trim(n), () -> model.trim(n));
    }

    private long name() {
        switch (random.nextInt(12)) {
            case 0:
                return random.nextLong();
            case 1:
                return random.nextInt(30) + 90;
            case 2:
            case 3:
                return 0x6161 + random.nextInt(26) + 256 * random.nextInt(2);
            default:
                return Check.pack(NAMES[random.nextInt(NAMES.length)]);
        }
    }

    private int value() {
        int[] greatOnes = {1000000000, -1000000000, 999999999, -999999997, 536870912, -536870912, 1000000001, -1000000001};
        switch (random.nextInt(8)) {
            case 0:
                return random.nextInt();
            case 1:
            case 2:
                return greatOnes[random.nextInt(greatOnes.length)];
            default:
                return random.nextInt(21) - 10;
        }
    }

    private void writeRules() {
        int howMany = random.nextInt(10) == 0 ? 13 : 1 + random.nextInt(6);
        for (int i = 0; i < howMany; i++) {
            put(random.nextInt(40) == 0 ? NAMES[random.nextInt(NAMES.length)] : "r" + (char) ('a' + i));
            put(":");
            writeClause();
            int exceptions = random.nextInt(2) == 0 ? 0 : random.nextInt(3);
            for (int k = 0; k < exceptions; k++) {
                put("!");
                writeClause();
            }
            if (random.nextInt(4) == 0) {
                put("@");
                put(NUMBERS[random.nextInt(NUMBERS.length)]);
            }
            if (i < howMany - 1 || random.nextInt(3) == 0) {
                put(";");
            }
        }
    }

    private void writeClause() {
        writeSide(0, 1 + random.nextInt(4));
        put(new String[] {"<", "<=", "=", ">=", ">"}[random.nextInt(5)]);
        writeSide(0, 1 + random.nextInt(3));
    }

    private void writeSide(int depth, int length) {
        if (random.nextInt(5) == 0) {
            put("-");
        }
        for (int i = 0; i < length; i++) {
            if (i > 0) {
                put("+-*/*/".substring(random.nextInt(6)).substring(0, 1));
            }
            if (random.nextInt(6) == 0 && depth < 10) {
                put("(");
                writeSide(depth + 1, 1 + random.nextInt(3));
                put(")");
            } else if (great && random.nextInt(3) == 0) {
                put(GREAT_ONES[random.nextInt(GREAT_ONES.length)]);
            } else if (random.nextInt(2) == 0) {
                put(NUMBERS[random.nextInt(NUMBERS.length)]);
            } else {
                put(NAMES[random.nextInt(NAMES.length)]);
            }
        }
    }

    private void put(String word) {
        said.append(word);
        if (random.nextInt(12) == 0) {
            said.append(' ');
        }
    }

    /** Some texts are cut, or have a character changed, put in or taken out. */
    private void spoil() {
        int place = random.nextInt(said.length());
        char odd = ODD.charAt(random.nextInt(ODD.length()));
        switch (random.nextInt(14)) {
            case 0:
                said.setLength(place);
                break;
            case 1:
                said.setCharAt(place, odd);
                break;
            case 2:
                said.insert(place, odd);
                break;
            case 3:
                said.deleteCharAt(place);
                break;
            default:
                break;
        }
    }
}
