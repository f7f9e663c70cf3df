import java.math.BigInteger;

/** Promises 8 to 14: the latest FAULT and what is told of the RESULT. */
public final class ResultTests {
    private static final BigInteger TEN = BigInteger.TEN;
    /** The largest number that 512 BITS can hold. */
    private static final BigInteger MOST = BigInteger.ONE.shiftLeft(512).subtract(BigInteger.ONE);

    public static void main(String[] args) {
        Sentences.run(ResultTests.class);
    }

    private static void result(Run x, String text) {
        x.put(text);
        Check.due("reckon \"" + text + "\"", x.reckon(), 1);
    }

    /** A book of 512 BITS with h, 2 to the 256, so that (h-1)(h+1) is the largest number. */
    private static Run wide() {
        Run x = new Run(512);
        x.defines("h (2^64)^4", 1);
        return x;
    }

    @Says(in = "Terms", words = "FAULTS: 1 SYNTAX, 2 TWICE, 3 MUCH, 4 ENDLESS, 5 UNKNOWN, 6 ZERO, 7 MIXED,"
        + " 8 POWERS, 9 LARGE.")
    static void p08_numbersOfTheFaults() {
        Run x = new Run(16);
        x.defines("m !", 1);
        String[] files = {"?", "m !", FileTests.lines("b% !", 0, 8), "a a"};
        for (int i = 0; i < files.length; i++) {
            x.put(files[i]);
            x.define();
            Check.due("fault of \"" + files[i] + "\"", x.fault(), i + 1);
        }
        String[] texts = {"zz", "1/0", "m + 1", "(m^99)^2", "65536"};
        for (int i = 0; i < texts.length; i++) {
            x.put(texts[i]);
            x.reckon();
            Check.due("fault of \"" + texts[i] + "\"", x.fault(), i + 5);
        }
    }

    @Says(in = "Terms", words = "The RESULT is a VALUE, 0 without POWERS at first.")
    static void p09_p14_theResultAtFirst() {
        Run x = new Run(64);
        x.shows("a new object", "0/1");
        Check.due("sign", x.sign(), 0);
        Check.due("digits(0)", x.digits(0), 1);
        Check.due("digit(0, 0)", x.digit(0, 0), 0);
        Check.due("digits(1)", x.digits(1), 1);
        Check.due("digit(1, 0)", x.digit(1, 0), 1);
        Check.due("point(1)", x.point(1), 0);
        Check.due("ends(0)", x.ends(0), 0);
        Check.due("ends(1)", x.ends(1), 0);
        Check.due("ends(2)", x.ends(2), 1);
        x.defines("m !\nn 5", 2);
        Check.due("power(0)", x.power(0), 0);
        Check.due("alike(0)", x.alike(0), 1);
    }

    @Says(in = "Terms", words = "What an act with a FAULT would change stays as it was, but the TAPE.")
    static void p06_aFaultLeavesTheResult() {
        Run x = new Run(16);
        x.defines("m !", 1);
        x.reckons("-7|3 m^2", "-7/3*2");
        String[] texts = {"", "5 + ?", "5 zz", "5/0", "5 + m", "m^99 m", "65535 2", "65536"};
        for (String text : texts) {
            x.put(text);
            Check.holds("reckon \"" + text + "\" has a FAULT", x.reckon() <= -10);
            x.shows("after reckon \"" + text + "\"", "-7/3*2");
            Check.due("TAPE", x.told(0), 0);
            Check.due("RESULTS", x.told(4), 1);
            Check.due("DEFINITIONS", x.told(1), 1);
        }
    }

    @Says(in = "Terms", words = "NONE is -1.")
    static void p01_noneIsMinus1() {
        Check.due("NONE", MeasureBook.NONE, -1);
        Check.due("told(5)", new Run(64).told(5), -1);
    }

    @Says(in = "Promise 8", words = "The FAULT of the latest define(), reckon() or turn();")
    static void p08_theLatest() {
        Run x = new Run(64);
        x.put("?");
        x.define();
        Check.due("of define", x.fault(), Check.SYNTAX);
        x.put("zz");
        x.reckon();
        Check.due("of reckon", x.fault(), Check.UNKNOWN);
        x.put("1 > 0");
        x.turn();
        Check.due("of turn", x.fault(), Check.ZERO);
        x.put("1");
        x.reckon();
        Check.due("of reckon", x.fault(), 0);
        x.put("a a");
        x.define();
        Check.due("of define", x.fault(), Check.ENDLESS);
    }

    @Says(in = "Promise 8", words = "The FAULT of the latest define(), reckon() or turn();")
    static void p08_otherCallsLeaveIt() {
        Run x = new Run(64);
        x.defines("a 2 as\nas 7", 2);
        x.put("1/0");
        x.reckon();
        x.feed(0, 0, 0, 0, 0);
        x.cut(99);
        x.cut(0);
        Check.due("forget(9)", x.forget(9), Check.NONE);
        Check.due("forget(1)", x.forget(1), Check.NONE);
        Check.due("forget(0)", x.forget(0), 2);
        x.faultOf(0);
        x.point(0);
        Check.due("fault", x.fault(), Check.ZERO);
        Check.due("fault again", x.fault(), Check.ZERO);
        Check.due("forget(2)", x.forget(2), 0);
        Check.due("fault", x.fault(), Check.ZERO);
    }

    @Says(in = "Promise 8", words = "0 none.")
    static void p08_0None() {
        Run x = new Run(64);
        Check.due("of a new object", x.fault(), 0);
        x.put("?");
        x.reckon();
        x.define();
        Check.due("of a define of nothing", x.fault(), 0);
        x.reckon();
        x.put("1 > 1");
        x.turn();
        Check.due("of turn", x.fault(), 0);
        x.reckon();
        x.put("a 1/0");
        x.define();
        Check.due("of define, though a VALUE has one", x.fault(), 0);
        x.reckon();
        x.put("0");
        x.reckon();
        Check.due("of reckon", x.fault(), 0);
    }

    @Says(in = "Promise 9", words = "Of the RESULT: 1 above 0, 0, or -1 below.")
    static void p09_sign() {
        Run x = new Run(64);
        String[] texts = {"1", "-1", "0", "-0", "1|99999", "-1|99999", "1 - 1", "(-2)^2", "(-2)^3", "(-2)^-3",
            "1 - 2", "-1 + 2", "-1|3 + 1|2", "1|3 - 1|2", "-1 / (-2)", "(-1)^0", "0^0", "-2 (-3)", "0 (-3)", "0/(-3)"};
        int[] signs = {1, -1, 0, 0, 1, -1, 0, 1, -1, -1, -1, 1, 1, -1, 1, 1, 1, 1, 0, 0};
        Check.due("as many texts as signs", texts.length, signs.length);
        for (int i = 0; i < texts.length; i++) {
            result(x, texts[i]);
            Check.due("sign of " + texts[i], x.sign(), signs[i]);
        }
        x.put("-1 > 3");
        x.turn();
        Check.due("sign of a turn", x.sign(), -1);
        x.put("-1 > -3");
        x.turn();
        Check.due("sign of a turn", x.sign(), 1);
    }

    @Says(in = "Promise 10", words = "The RESULT's POWER of a BASE;")
    static void p10_power() {
        Run x = new Run(64);
        x.defines("a 1\n" + FileTests.lines("b% !", 0, 8), 9);
        result(x, "b0^99 b1^-99 b3^3 / b7^7");
        int[] powers = {99, -99, 0, 3, 0, 0, 0, -7};
        for (int base = 0; base < powers.length; base++) {
            Check.due("power(" + base + ")", x.power(base), powers[base]);
        }
    }

    @Says(in = "Promise 10", words = "0 where there is no such one.")
    static void p10_noSuchBase() {
        Run x = new Run(64);
        Check.due("power(0) of an empty book", x.power(0), 0);
        x.defines(FileTests.lines("b% !", 0, 8), 8);
        result(x, "(b0 b1 b2 b3 b4 b5 b6 b7)^5");
        for (int base : new int[] {-1, 8, 9, -8, Integer.MIN_VALUE, Integer.MAX_VALUE}) {
            Check.due("power(" + base + ")", x.power(base), 0);
        }
        x.forget(6);
        Check.due("power(1)", x.power(1), 5);
        Check.due("power(2) of 2 BASES", x.power(2), 0);
        Check.due("power(7) of 2 BASES", x.power(7), 0);
    }

    @Says(in = "Promise 11", words = "How many decimal digits the number above the line (part 0) or below it (1) has,")
    static void p11_digits() {
        Run x = wide();
        String[] texts = {"9", "10", "99", "-100", "999999999", "1000000000", "1e18", "1e154", "1|1e154", "9e-18"};
        int[] above = {1, 2, 2, 3, 9, 10, 19, 155, 1, 1};
        int[] below = {1, 1, 1, 1, 1, 1, 1, 1, 155, 19};
        for (int i = 0; i < texts.length; i++) {
            result(x, texts[i]);
            Check.due("digits(0) of " + texts[i], x.digits(0), above[i]);
            Check.due("digits(1) of " + texts[i], x.digits(1), below[i]);
        }
        result(x, "-(h-1)(h+1)");
        Check.due("digits(0) of the largest", x.digits(0), MOST.toString().length());
        result(x, "-1/(h-1)/(h+1)");
        Check.due("digits(1) of the largest", x.digits(1), MOST.toString().length());
        Check.due("digits(0) of 1", x.digits(0), 1);
    }

    @Says(in = "Promise 11", words = "1 for 0.")
    static void p11_digitsOf0() {
        Run x = wide();
        Check.due("digits(0) at first", x.digits(0), 1);
        result(x, "1e50");
        result(x, "0e50");
        Check.due("digits(0)", x.digits(0), 1);
        Check.due("digits(1)", x.digits(1), 1);
    }

    @Says(in = "Promise 11", words = "NONE: another part.")
    static void p11_anotherPart() {
        Run x = new Run(64);
        result(x, "22|7");
        for (int part : new int[] {-1, 2, 3, Integer.MIN_VALUE, Integer.MAX_VALUE}) {
            Check.due("digits(" + part + ")", x.digits(part), Check.NONE);
        }
    }

    @Says(in = "Promise 12", words = "Digit i of it, 0 the lowest.")
    static void p12_digit() {
        Run x = wide();
        result(x, "-1234567890123456789012|1000000007");
        String above = "1234567890123456789012";
        String below = "1000000007";
        for (int i = 0; i < 22; i++) {
            Check.due("digit(0, " + i + ")", x.digit(0, i), above.charAt(21 - i) - '0');
        }
        for (int i = 0; i < 10; i++) {
            Check.due("digit(1, " + i + ")", x.digit(1, i), below.charAt(9 - i) - '0');
        }
        result(x, "0");
        Check.due("digit(0, 0) of 0", x.digit(0, 0), 0);
        Check.due("digit(1, 0) of 0", x.digit(1, 0), 1);
    }

    @Says(in = "Promise 12", words = "Digit i of it, 0 the lowest.")
    static void p12_digitsOfTheLargest() {
        Run x = wide();
        result(x, "(h-1)(h+1)");
        x.shows("the largest", MOST + "/1");
        result(x, "-1/((h-1)(h+1))");
        x.shows("the least", "-1/" + MOST);
    }

    @Says(in = "Promise 12", words = "NONE: there is no such digit or part.")
    static void p12_noSuchDigit() {
        Run x = wide();
        result(x, "1234567890|97");
        Check.due("digit(0, 9)", x.digit(0, 9), 1);
        Check.due("digit(1, 1)", x.digit(1, 1), 9);
        for (int i : new int[] {-1, 10, 18, 155, 162, Integer.MIN_VALUE, Integer.MAX_VALUE}) {
            Check.due("digit(0, " + i + ")", x.digit(0, i), Check.NONE);
        }
        Check.due("digit(1, 2)", x.digit(1, 2), Check.NONE);
        Check.due("digit(1, -1)", x.digit(1, -1), Check.NONE);
        result(x, "0");
        Check.due("digit(0, 1) of 0", x.digit(0, 1), Check.NONE);
        result(x, "(h-1)(h+1)");
        Check.due("digit(0, 154)", x.digit(0, 154), MOST.toString().charAt(0) - '0');
        for (int i : new int[] {155, 161, 162, 163}) {
            Check.due("digit(0, " + i + ") of the largest", x.digit(0, i), Check.NONE);
        }
    }

    @Says(in = "Promise 12", words = "NONE: there is no such digit or part.")
    static void p12_noSuchPart() {
        Run x = new Run(64);
        result(x, "22|7");
        for (int part : new int[] {-1, 2, Integer.MIN_VALUE, Integer.MAX_VALUE}) {
            Check.due("digit(" + part + ", 0)", x.digit(part, 0), Check.NONE);
        }
    }

    private static void pointsAsDue(Run x, BigInteger above, BigInteger below, int step) {
        for (int i = 1; i <= 300; i += i < 30 ? 1 : step) {
            BigInteger due = above.multiply(TEN.pow(i)).divide(below).mod(TEN);
            Check.due("point " + i + " of " + above + "/" + below, x.point(i), due.intValue());
        }
    }

    @Says(in = "Promise 13", words = "The RESULT, without sign, as a decimal fraction:"
        + " the i-th digit behind the point, from 1 on")
    static void p13_point() {
        Run x = wide();
        result(x, "22|7");
        pointsAsDue(x, BigInteger.valueOf(22), BigInteger.valueOf(7), 1);
        result(x, "1234.0625");
        int[] digits = {0, 6, 2, 5, 0, 0};
        for (int i = 0; i < digits.length; i++) {
            Check.due("point " + (i + 1) + " of 1234.0625", x.point(i + 1), digits[i]);
        }
        result(x, "1000");
        Check.due("point(1) of 1000", x.point(1), 0);
        Check.due("point(300) of 1000", x.point(300), 0);
    }

    @Says(in = "Promise 13", words = "The RESULT, without sign, as a decimal fraction:"
        + " the i-th digit behind the point, from 1 on")
    static void p13_pointOfTheLargest() {
        Run x = wide();
        result(x, "5^99 / ((2^99)^5 + 3)");
        pointsAsDue(x, BigInteger.valueOf(5).pow(99), BigInteger.TWO.pow(495).add(BigInteger.valueOf(3)), 7);
        result(x, "(h-1)(h+1)/((h-2)(h+1))");
        BigInteger h = BigInteger.ONE.shiftLeft(256);
        pointsAsDue(x, h.subtract(BigInteger.ONE), h.subtract(BigInteger.TWO), 7);
        result(x, "((h-1)(h+1)-1) / ((h-1)(h+1))");
        pointsAsDue(x, MOST.subtract(BigInteger.ONE), MOST, 7);
    }

    /** Quotients whose digits are easily guessed too high when they are reckoned many bits at a time. */
    @Says(in = "Promise 13", words = "(exactly, nothing is rounded).")
    static void p13_pointOfLongDivisions() {
        int[][] exponents = {{89, 87}, {90, 60}, {93, 61}, {63, 62}, {127, 95}, {128, 64}, {150, 91}, {191, 97}};
        for (int[] pair : exponents) {
            BigInteger high = BigInteger.ONE.shiftLeft(pair[0]);
            BigInteger low = BigInteger.ONE.shiftLeft(pair[1]);
            for (int more = -3; more <= 3; more += 2) {
                for (int less = -1; less <= 1; less += 2) {
                    BigInteger above = high.add(BigInteger.valueOf(more));
                    BigInteger below = low.add(BigInteger.valueOf(less));
                    Run x = new Run(512);
                    result(x, above + " " + below + " / " + below + "^2");
                    BigInteger common = above.gcd(below);
                    x.shows(above + "/" + below, above.divide(common) + "/" + below.divide(common));
                    pointsAsDue(x, above, below, 30);
                }
            }
        }
    }

    @Says(in = "Promise 13", words = "The RESULT, without sign,")
    static void p13_withoutSign() {
        Run x = new Run(64);
        result(x, "-1|8");
        Check.due("point(1)", x.point(1), 1);
        Check.due("point(2)", x.point(2), 2);
        Check.due("point(3)", x.point(3), 5);
        Check.due("point(4)", x.point(4), 0);
        result(x, "-22|7");
        pointsAsDue(x, BigInteger.valueOf(22), BigInteger.valueOf(7), 10);
    }

    @Says(in = "Promise 13", words = "(exactly, nothing is rounded).")
    static void p13_nothingIsRounded() {
        Run x = new Run(64);
        result(x, "2|3");
        Check.due("point(1) of 2|3", x.point(1), 6);
        Check.due("point(300) of 2|3", x.point(300), 6);
        result(x, "0.999");
        Check.due("point(1) of 0.999", x.point(1), 9);
        Check.due("point(3) of 0.999", x.point(3), 9);
        Check.due("point(4) of 0.999", x.point(4), 0);
        result(x, "1999999|2000000");
        Check.due("point(6)", x.point(6), 9);
        Check.due("point(7)", x.point(7), 5);
        Check.due("point(8)", x.point(8), 0);
    }

    @Says(in = "Promise 13", words = "NONE: i is not 1..300.")
    static void p13_iIsNot1To300() {
        Run x = new Run(64);
        result(x, "1|9");
        Check.due("point(1)", x.point(1), 1);
        Check.due("point(300)", x.point(300), 1);
        for (int i : new int[] {0, -1, -300, 301, 302, 1000, Integer.MIN_VALUE, Integer.MAX_VALUE}) {
            Check.due("point(" + i + ")", x.point(i), Check.NONE);
        }
    }

    private static void endsAsDue(Run x, String text, int twos, int fives, int whether) {
        result(x, text);
        Check.due("ends(0) of " + text, x.ends(0), twos);
        Check.due("ends(1) of " + text, x.ends(1), fives);
        Check.due("ends(2) of " + text, x.ends(2), whether);
    }

    @Says(in = "Promise 14", words = "How often 2 (which 0) or 5 (1) goes into the number below the line;")
    static void p14_howOften() {
        Run x = wide();
        endsAsDue(x, "0", 0, 0, 1);
        endsAsDue(x, "40", 0, 0, 1);
        endsAsDue(x, "7|8", 3, 0, 1);
        endsAsDue(x, "1|25", 0, 2, 1);
        endsAsDue(x, "3|2000", 4, 3, 1);
        endsAsDue(x, "1|1400", 3, 2, 0);
        endsAsDue(x, "5|10", 1, 0, 1);
        endsAsDue(x, "-1|10", 1, 1, 1);
    }

    @Says(in = "Promise 14", words = "How often 2 (which 0) or 5 (1) goes into the number below the line;")
    static void p14_howOftenAtMost() {
        Run x = wide();
        endsAsDue(x, "(2^-73)^7", 511, 0, 1);
        endsAsDue(x, "(5^-44)^5", 0, 220, 1);
        endsAsDue(x, "(10^-77)^2", 154, 154, 1);
        endsAsDue(x, "(2^-73)^7 (1|3)^0", 511, 0, 1);
    }

    @Says(in = "Promise 14", words = "(2): whether it is made of these alone,"
        + " so that the decimal fraction ends (1, else 0).")
    static void p14_whetherItEnds() {
        Run x = wide();
        endsAsDue(x, "3", 0, 0, 1);
        endsAsDue(x, "1|3", 0, 0, 0);
        endsAsDue(x, "1|6", 1, 0, 0);
        endsAsDue(x, "1|15", 0, 1, 0);
        endsAsDue(x, "3|6", 1, 0, 1);
        endsAsDue(x, "7|10", 1, 1, 1);
        endsAsDue(x, "1|7e9", 9, 9, 0);
        endsAsDue(x, "1/((h-1)(h+1))", 0, MOST.mod(BigInteger.valueOf(5)).signum() == 0 ? 1 : 0, 0);
    }

    @Says(in = "Promise 14", words = "NONE: another which.")
    static void p14_anotherWhich() {
        Run x = new Run(64);
        result(x, "1|10");
        for (int which : new int[] {-1, 3, 5, Integer.MIN_VALUE, Integer.MAX_VALUE}) {
            Check.due("ends(" + which + ")", x.ends(which), Check.NONE);
        }
    }
}
