import java.nio.charset.StandardCharsets;

/** Many runs of calls, made up by a fixed rule, on the program and on the oracle side by side. */
public final class OracleTests {
    private static final int[] BITS = {16, 17, 29, 30, 31, 60, 61, 64, 100, 200, 333, 511, 512};
    private static final String[] NAMES = {
        "m", "s", "a", "as", "ss", "k", "ka", "kas", "km", "kms", "mm", "b", "c", "d", "e", "e3", "kk", "kkm", "ks",
        "x1", "_", "M", "bs", "cs", "da", "mega", "megam", "ab", "abc", "kab", "aa", "aaa", "p", "q", "r", "t"
    };
    private static final String[] NUMBERS = {
        "0", "1", "2", "3", "5", "7", "10", "12", "65535", "65536", "0.5", "1.25", "1e3", "1e-3", "2.5e+2", "0e9",
        "1e15", "1e-40", "4294967295", "1073741824", "1073741823", "18446744073709551616", "0.0001", "1e153", "1e155",
        "9e-153", "123456789012345678901234567890123456789012345678901234567890", "600e-2", "3e999", "33e-999",
        "1152921504606846976", "1152921504606846975", "1237940039285380274899124223"
    };
    private static final String[] NOISE = {
        "+", "-", "*", "/", "^", "|", "(", ")", ">", "!", "#", "\n", "\r", "\t", ".", "e", "?", "\u00e9", " ", "s", "9",
        "\u0000", "e+", "^-", "abcdefghijklmnopqrstuvwxy", "1e1000", "99", "100", ",", "- "
    };

    private static final long[] LIMBS = {
        0, 0, 1, 2, 1073741823, 1073741823, 1073741822, 536870912, 536870911, 536870913, 715827882, 123456789
    };

    private long seed;
    private Run book;
    private Oracle oracle;
    private final int run;
    private boolean bad;
    /** Whether many DEFINITIONS come in one FILE, so that the book has 100 before the calls are at an end. */
    private final boolean filling;
    private int made;

    private OracleTests(int run) {
        this.run = run;
        filling = run % 4 == 0;
        seed = run * 7919L + 17;
    }

    public static void main(String[] args) {
        int runs = args.length > 0 ? Integer.parseInt(args[0]) : 1500;
        int from = args.length > 1 ? Integer.parseInt(args[1]) : 0;
        int[] faults = new int[10];
        for (int run = from; run < from + runs; run++) {
            new OracleTests(run).go(faults);
            new OracleTests(run).divide();
        }
        for (int kind = 1; kind < faults.length; kind++) {
            if (faults[kind] == 0) {
                Check.due("runs with FAULT " + kind, 0, 1);
            }
        }
        Check.end();
    }

    private int pick(int below) {
        seed = seed * 6364136223846793005L + 1442695040888963407L;
        return (int) ((seed >>> 33) % below);
    }

    private String pick(String[] from) {
        return from[pick(from.length)];
    }

    private void same(String call, int got, int want) {
        if (got != want) {
            bad = true;
            Check.due("run " + run + ", call " + book.calls() + ": " + call, got, want);
        }
    }

    /** Whether so many calls more stay within those that the document promises something of. */
    private boolean fits(int calls) {
        return book.calls() + calls <= Run.MOST_CALLS;
    }

    private void go(int[] faults) {
        int bits = BITS[pick(BITS.length)];
        book = new Run(bits);
        oracle = new Oracle(bits);
        boolean full = false;
        while (!full && !bad) {
            int act = pick(12);
            if (act < 4 || oracle.told(1) < 4) {
                full = !text(file(), "define");
            } else if (act < 8) {
                full = !text(expr(3), "reckon");
            } else if (act < 10) {
                full = !text(expr(2) + ">" + expr(2), "turn");
            } else {
                int n = pick(8) == 0 ? pick(oracle.told(1) + 3) - 1 : pick(3);
                full = !fits(1);
                if (!full) {
                    same("forget(" + n + ")", book.forget(n), oracle.forget(n));
                }
            }
            faults[oracle.fault()]++;
            for (int i = 0; i < 3 && fits(1); i++) {
                ask(pick(11));
            }
            if (pick(3) == 0) {
                compareResults();
            }
        }
    }

    /** Long divisions whose limbs are such that a first guess at a limb of the quotient is too high. */
    private void divide() {
        for (int i = 0; i < 4; i++) {
            book = new Run(512);
            oracle = new Oracle(512);
            String text = i < 3 ? "(" + limbs(1 + pick(16)) + ") / (" + limbs(2 + pick(15)) + ")"
                : limbs(9) + " > " + limbs(1 + pick(9));
            text(text, i < 3 ? "reckon" : "turn", false);
            ask(4);
            compareResults();
        }
    }

    private String limbs(int count) {
        StringBuilder text = new StringBuilder("1");
        for (int i = 0; i < count; i++) {
            long limb = LIMBS[pick(LIMBS.length)];
            text.insert(0, "(").append(")2^30+").append(limb);
        }
        return text.toString();
    }

    private boolean text(String plain, String act) {
        return text(plain, act, pick(4) == 0);
    }

    /** Answers false, and does nothing, if there are not calls enough left for it. */
    private boolean text(String plain, String act, boolean withNoise) {
        String text = withNoise ? noisy(plain) : plain;
        byte[] bytes = text.getBytes(StandardCharsets.ISO_8859_1);
        if (!fits(bytes.length / 20 + 4)) {
            return false;
        }
        for (int at = 0; at < bytes.length; at += 20) {
            int[] five = new int[5];
            for (int i = 0; i < 5; i++) {
                five[i] = Check.four(bytes, at + 4 * i);
            }
            same("feed", book.feed(five[0], five[1], five[2], five[3], five[4]), oracle.feed(five));
        }
        same("cut", book.cut(bytes.length), oracle.cut(bytes.length));
        String call = act + " \"" + text + "\"";
        if (act.equals("define")) {
            same(call, book.define(), oracle.define());
        } else if (act.equals("reckon")) {
            same(call, book.reckon(), oracle.reckon());
        } else {
            same(call, book.turn(), oracle.turn());
        }
        same("fault after " + call, book.fault(), oracle.fault());
        return true;
    }

    private void ask(int what) {
        int n = pick(20) == 0 ? pick(9) - 4 : pick(3);
        int k = pick(pick(3) == 0 ? 160 : 40) - 1;
        int far = pick(310) - 3;
        switch (what) {
            case 0 -> same("sign", book.sign(), oracle.sign());
            case 1 -> same("power(" + n + ")", book.power(n), oracle.power(n));
            case 2 -> same("digits(" + n + ")", book.digits(n), oracle.digits(n));
            case 3 -> same("digit(" + n + ", " + k + ")", book.digit(n, k), oracle.digit(n, k));
            case 4 -> same("point(" + far + ")", book.point(far), oracle.point(far));
            case 5 -> same("ends(" + n + ")", book.ends(n), oracle.ends(n));
            case 6 -> same("alike(" + n + ")", book.alike(n), oracle.alike(n));
            case 7 -> same("sort(" + k + ")", book.sort(k), oracle.sort(k));
            case 8 -> same("faultOf(" + k + ")", book.faultOf(k), oracle.faultOf(k));
            case 9 -> same("name(" + k + ", " + n + ")", book.name(k, n), oracle.name(k, n));
            default -> same("told(" + n + ")", book.told(n), oracle.told(n));
        }
    }

    private void compareResults() {
        if (fits(oracle.digits(0) + oracle.digits(1) + 20) && !book.result().equals(oracle.result())) {
            Check.wrong("run " + run + ", call " + book.calls() + ": the RESULT is not " + oracle.result());
            bad = true;
        }
    }

    private String noisy(String plain) {
        String text = plain;
        for (int times = pick(3); times >= 0; times--) {
            int at = pick(text.length() + 1);
            int gone = Math.min(text.length() - at, pick(4));
            text = text.substring(0, at) + (pick(3) > 0 ? pick(NOISE) : "") + text.substring(at + gone);
        }
        return text;
    }

    private String file() {
        StringBuilder lines = new StringBuilder();
        for (int count = pick(filling ? 20 : 5); count >= 0; count--) {
            String name = filling && pick(100) > 0 ? pick(NAMES) + "_" + made++ : newName();
            int sort = pick(10);
            if (sort < (oracle.told(1) < 4 ? 5 : filling && pick(8) > 0 ? 0 : 2)) {
                lines.append(name).append(blank()).append("!");
            } else if (sort == 5) {
                // The first one is ENDLESS as soon as the second one is forgotten.
                String other = pick(3) == 0 ? nameOf(pick(oracle.told(1) + 1)) + name : name + "s";
                lines.append(name).append(" 2").append(other).append("\n").append(other).append(" 3");
            } else if (sort < 5) {
                lines.append(name).append("-").append(blank()).append(expr(1));
            } else {
                lines.append(name).append(" ").append(expr(2));
            }
            lines.append(pick(6) == 0 ? " # so (" : "").append(pick(9) == 0 ? "\n\n" : "\n");
        }
        return lines.toString();
    }

    private String blank() {
        return new String[] {"", "", " ", "  ", "\t", "\r"}[pick(6)];
    }

    private String expr(int depth) {
        StringBuilder text = new StringBuilder(pick(6) == 0 ? "-" : "");
        text.append(power(depth));
        for (int more = pick(4); more > 0; more--) {
            text.append(blank()).append(pick(new String[] {"+", "-", "*", "/", " ", " ", " "})).append(blank());
            text.append(power(depth));
        }
        return text.toString();
    }

    private String power(int depth) {
        String one = one(depth);
        if (pick(4) > 0) {
            return one;
        }
        int kind = pick(8);
        String n = String.valueOf(kind == 0 ? pick(101) : kind == 1 ? 33 * (1 + pick(3)) : pick(4));
        return one + blank() + "^" + (pick(3) == 0 ? "-" : "") + blank() + n;
    }

    private String one(int depth) {
        int kind = pick(10);
        if (kind < 2 && depth > 0) {
            return "(" + blank() + expr(depth - 1) + ")";
        }
        if (kind < 7) {
            return knownName();
        }
        return kind < 9 ? number() : number() + blank() + "|" + blank() + number();
    }

    private String number() {
        return NUMBERS[pick(pick(5) == 0 ? NUMBERS.length : 8)];
    }

    private String nameOf(int k) {
        StringBuilder name = new StringBuilder();
        for (int i = 0; oracle.name(k, i) >= 0; i++) {
            name.append((char) oracle.name(k, i));
        }
        return name.toString();
    }

    /** Now and then one that the book has, or that the FILE has twice. */
    private String newName() {
        String name = pick(NAMES);
        for (int k = 0; k < oracle.told(1) && pick(20) > 0; k++) {
            if (nameOf(k).equals(name)) {
                name = pick(NAMES) + pick(30);
                k = -1;
            }
        }
        return name;
    }

    /** One that stands for something most of the time, by any of the ways. */
    private String knownName() {
        int count = oracle.told(1);
        if (count == 0 || pick(12) == 0) {
            return pick(NAMES);
        }
        String name = nameOf(pick(pick(2) == 0 ? count : Math.min(count, 4))) + (pick(5) == 0 ? "s" : "");
        int prefix = pick(count);
        return oracle.sort(prefix) == 2 && pick(3) > 0 ? nameOf(prefix) + name : name;
    }
}
