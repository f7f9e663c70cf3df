import java.math.BigInteger;

/** Promise 6: reckon, and how an EXPR is reckoned. */
public final class ReckonTests {
    public static void main(String[] args) {
        Sentences.run(ReckonTests.class);
    }

    /** In 16 BITS: two BASES, the largest number, the highest and the lowest POWER, and a 0 with a POWER. */
    private static Run narrow() {
        Run x = new Run(16);
        x.defines("m !\ns !\nbig 65535\nhigh m^99\nlow m^-99\nnil 0 m", 6);
        return x;
    }

    @Says(in = "Promise 6", words = "The TAPE is an EXPR: its VALUE is the RESULT: 1.")
    static void p06_theValueIsTheResult() {
        Run x = new Run(64);
        x.defines("m !\ns !", 2);
        x.reckons("-6|4 m^2 / s", "-3/2*2,-1");
        x.reckons("5", "5/1");
        x.reckons("0", "0/1");
    }

    @Says(in = "Promise 6", words = "Else -10 less the place of its FAULT;")
    static void p06_thePlaceOfItsFault() {
        Run x = new Run(64);
        x.fails("zz", Check.UNKNOWN, 0);
        x.fails("?", Check.SYNTAX, 0);
        x.fails(" 1 / 0", Check.ZERO, 3);
        x.put(" ".repeat(3998) + "zz");
        Check.due("UNKNOWN at place 3998", x.reckon(), -4008);
    }

    @Says(in = "Promise 6", words = "SYNTAX goes ahead of all others.")
    static void p06_syntaxGoesAheadOfAllOthers() {
        Run x = new Run(16);
        x.defines("m !", 1);
        x.fails("zz + ?", Check.SYNTAX, 5);
        x.fails("1/0 +", Check.SYNTAX, 5);
        x.fails("m + 1 )", Check.SYNTAX, 6);
        x.fails("(m^99)^99 !", Check.SYNTAX, 10);
        x.fails("65536 2^100", Check.SYNTAX, 8);
        x.fails("zz zz >", Check.SYNTAX, 6);
    }

    @Says(in = "Terms", words = "A VALUE is a fraction in lowest terms")
    static void p06_value_lowestTerms() {
        Run x = new Run(512);
        x.reckons("6|4", "3/2");
        x.reckons("0.125", "1/8");
        x.reckons("10/5", "2/1");
        x.reckons("1|3 + 1|6", "1/2");
        x.reckons("2|3 * 3|4", "1/2");
        x.reckons("(4|6)^2", "4/9");
        x.reckons("3^99 7^60 / (3^98 7^62)", "3/49");
        x.reckons("(10^50 + 1) / (10^50 - 1) * (10^25 - 1)",
            "1" + "0".repeat(49) + "1/1" + "0".repeat(24) + "1");
        x.reckons("10^60 / 10^60", "1/1");
    }

    @Says(in = "Terms", words = "(what is below the line is above 0;")
    static void p06_value_belowTheLine() {
        Run x = new Run(64);
        x.reckons("1 / (-2)", "-1/2");
        x.reckons("-1 / (-2)", "1/2");
        x.reckons("(-2)^-1", "-1/2");
        x.reckons("(-2)^-2", "1/4");
        x.reckons("-1|2", "-1/2");
    }

    @Says(in = "Terms", words = "0 is 0/1),")
    static void p06_value_zero() {
        Run x = new Run(64);
        x.defines("m !", 1);
        x.reckons("0", "0/1");
        x.reckons("0|7", "0/1");
        x.reckons("0.000", "0/1");
        x.reckons("-0", "0/1");
        x.reckons("0 / 5", "0/1");
        x.reckons("0 / (-5)", "0/1");
        x.reckons("1|3 - 1|3", "0/1");
        x.reckons("0^3", "0/1");
        x.reckons("0 (1|7)", "0/1");
        x.reckons("0 m", "0/1*1");
        x.reckons("m - m", "0/1*1");
    }

    @Says(in = "Terms", words = "and a POWER of each BASE, -99 to 99.")
    static void p06_value_powers() {
        Run x = narrow();
        x.reckons("m^99", "1/1*99");
        x.reckons("m^-99", "1/1*-99");
        x.reckons("high s^99", "1/1*99,99");
        x.reckons("high low", "1/1");
        x.reckons("high / m^98 / m^2", "1/1*-1");
        x.reckons("(m^33)^3", "1/1*99");
        x.reckons("(m^33)^-3", "1/1*-99");
        x.reckons("0 high", "0/1*99");
    }

    @Says(in = "Terms", words = "BITS is what the book is made with.")
    static void p06_value_bitsOfTheBook() {
        Run less = new Run(20);
        less.reckons("1048575", "1048575/1");
        less.fails("1048576", Check.LARGE, 0);
        Run more = new Run(21);
        more.reckons("1048576", "1048576/1");
        more.fails("2097152", Check.LARGE, 0);
    }

    @Says(in = "Terms", words = "Of a NUMBER: it is what it tells, times 10 to its EXPONENT, without POWERS;")
    static void p06_valueOfANumber() {
        Run x = new Run(512);
        x.defines("m !", 1);
        x.reckons("m^3", "1/1*3");
        x.reckons("12.50", "25/2");
        x.reckons("12.5e1", "125/1");
        x.reckons("12.5e3", "12500/1");
        x.reckons("12.5e-2", "1/8");
        x.reckons("00.50e001", "5/1");
        x.reckons("1e154", "1" + "0".repeat(154) + "/1");
        x.reckons("25e-154", "1/4" + "0".repeat(152));
    }

    @Says(in = "Terms", words = "of NUMBER | NUMBER the first divided by the second.")
    static void p06_valueOfNumberByNumber() {
        Run x = new Run(64);
        x.reckons("3|4", "3/4");
        x.reckons("6|3", "2/1");
        x.reckons("0.5|0.25", "2/1");
        x.reckons("1e3|1e-3", "1000000/1");
        x.reckons("0|3", "0/1");
        x.reckons("12 / 3|4", "16/1");
    }

    @Says(in = "Terms", words = "An EXPR is reckoned from the left to the right,"
        + " each act as soon as all that it is done to is there:")
    static void p06_order_fromTheLeft() {
        Run x = narrow();
        x.reckons("10 - 3 - 2", "5/1");
        x.reckons("100 / 5 / 2", "10/1");
        x.reckons("7 - 3 + 2", "6/1");
        x.fails("yy + zz", Check.UNKNOWN, 0);
        x.fails("1/0 + zz", Check.ZERO, 1);
        x.fails("zz + 1/0", Check.UNKNOWN, 0);
        x.fails("(1 + m) (1/0)", Check.MIXED, 3);
        x.fails("1/0 + 2/0", Check.ZERO, 1);
        x.fails("1 + 2 (zz + (1/0))", Check.UNKNOWN, 7);
    }

    @Says(in = "Terms", words = "in a POWER ONE, then ^;")
    static void p06_order_power() {
        Run x = narrow();
        x.reckons("2 3^2", "18/1");
        x.reckons("2 * 3^2", "18/1");
        x.reckons("(1+2)^2", "9/1");
        x.reckons("2|3^3", "8/27");
        x.fails("zz^99", Check.UNKNOWN, 0);
        x.fails("(1/0)^99", Check.ZERO, 2);
        x.fails("256 256^2", Check.LARGE, 7);
        x.fails("1|0^2", Check.ZERO, 1);
    }

    @Says(in = "Terms", words = "in a ROW the product so far with each POWER, as that is there;")
    static void p06_order_row() {
        Run x = narrow();
        x.fails("256 256 zz", Check.LARGE, 4);
        x.fails("256 256 2^-1", Check.LARGE, 4);
        x.reckons("256 2^-1 256", "32768/1");
        x.fails("256 (256 zz)", Check.UNKNOWN, 9);
        x.fails("high m zz", Check.POWERS, 5);
        x.fails("2 zz 65535", Check.UNKNOWN, 2);
    }

    @Says(in = "Terms", words = "in a TERM the product or quotient so far with each ROW;")
    static void p06_order_term() {
        Run x = narrow();
        x.reckons("12 / 2 3", "2/1");
        x.reckons("12 / 2 * 3", "18/1");
        x.reckons("2 * 12 / 3 4 * 5", "10/1");
        x.fails("1 / 0 zz", Check.UNKNOWN, 6);
        x.fails("1 / 0 * zz", Check.ZERO, 2);
        x.fails("256 * 256 * zz", Check.LARGE, 4);
        x.fails("256 * 256 zz", Check.UNKNOWN, 10);
        x.fails("2 * 256 256", Check.LARGE, 8);
        x.fails("1 / 256 256", Check.LARGE, 8);
        x.fails("1 / 256 / 256", Check.LARGE, 8);
        x.fails("1 * 2 / 0 / zz", Check.ZERO, 6);
    }

    @Says(in = "Terms", words = "- ahead of the first TERM when that TERM is there;")
    static void p06_order_minusAhead() {
        Run x = narrow();
        x.reckons("-2^2", "-4/1");
        x.reckons("-1 + 3", "2/1");
        x.reckons("-1 - 3", "-4/1");
        x.reckons("-2 3 * 4 + 1", "-23/1");
        x.reckons("-(1 + 2)", "-3/1");
        x.reckons("5 - (-2 + 1)", "6/1");
        x.reckons("-m", "-1/1*1");
        x.reckons("-(-(-7))", "-7/1");
        x.reckons("-big", "-65535/1");
        x.fails("-zz", Check.UNKNOWN, 1);
        x.fails("-2 big", Check.LARGE, 3);
    }

    @Says(in = "Terms", words = "in the EXPR the sum or difference so far with each TERM.")
    static void p06_order_expr() {
        Run x = narrow();
        x.reckons("1 + 2 * 3", "7/1");
        x.reckons("big + 1 * 0", "65535/1");
        x.reckons("big - 1 + 1", "65535/1");
        x.fails("big + 1 - 1", Check.LARGE, 4);
        x.fails("1 - 1 + big + 1", Check.LARGE, 12);
        x.fails("m + 1 + zz", Check.MIXED, 2);
        x.fails("m + 1 * zz", Check.UNKNOWN, 8);
        x.fails("m + 1 zz", Check.UNKNOWN, 6);
        x.fails("1 + (m + 1) + zz", Check.MIXED, 7);
    }

    @Says(in = "Terms", words = "A FAULT ends it, the first one:")
    static void p06_theFirstFaultEndsIt() {
        Run x = narrow();
        x.fails("65536 + 1/0 + zz", Check.LARGE, 0);
        x.fails("1/0 + 65536 + zz", Check.ZERO, 1);
        x.fails("zz + 65536 + 1/0", Check.UNKNOWN, 0);
        x.fails("(m + 1)(high m)", Check.MIXED, 3);
        x.fails("(high m)(m + 1)", Check.POWERS, 6);
        x.fails("0 (1/0) zz", Check.ZERO, 4);
        x.fails("0 zz", Check.UNKNOWN, 2);
        x.fails("(zz)^0", Check.UNKNOWN, 1);
    }

    @Says(in = "Terms", words = "UNKNOWN, at the NAME;")
    static void p06_unknownAtTheName() {
        Run x = narrow();
        x.fails("zz", Check.UNKNOWN, 0);
        x.fails("  zz", Check.UNKNOWN, 2);
        x.fails("2zz", Check.UNKNOWN, 1);
        x.fails("2 + 3 (m zz^2)", Check.UNKNOWN, 9);
        x.fails("m zz yy", Check.UNKNOWN, 2);
    }

    @Says(in = "Terms", words = "of acts, in this order: ZERO (something divided by 0; 0 to a POWER below 0),")
    static void p06_zero_dividedBy0() {
        Run x = narrow();
        x.fails("1 / 0", Check.ZERO, 2);
        x.fails("1 | 0", Check.ZERO, 2);
        x.fails("0 | 0", Check.ZERO, 2);
        x.fails("0 / 0", Check.ZERO, 2);
        x.fails("m / nil", Check.ZERO, 2);
        x.fails("nil / nil", Check.ZERO, 4);
        x.fails("1 / (2 - 2)", Check.ZERO, 2);
        x.fails("1 | 0e9", Check.ZERO, 2);
        x.reckons("0 / 1", "0/1");
    }

    @Says(in = "Terms", words = "of acts, in this order: ZERO (something divided by 0; 0 to a POWER below 0),")
    static void p06_zero_0ToAPowerBelow0() {
        Run x = narrow();
        x.fails("0 ^ -1", Check.ZERO, 2);
        x.fails("0^-99", Check.ZERO, 1);
        x.fails("nil^-1", Check.ZERO, 3);
        x.fails("(1 - 1)^-2", Check.ZERO, 7);
        x.reckons("0^1", "0/1");
        x.reckons("0^99", "0/1");
        x.reckons("nil^2", "0/1*2");
    }

    @Says(in = "Terms", words = "of acts, in this order: ZERO (something divided by 0; 0 to a POWER below 0),")
    static void p06_zeroGoesAheadOfPowers() {
        Run x = narrow();
        x.fails("low / nil", Check.ZERO, 4);
        x.fails("(0 m^2)^-99", Check.ZERO, 7);
        x.fails("low / 2 m", Check.POWERS, 4);
    }

    @Says(in = "Terms", words = "MIXED (sum or difference of what has other POWERS),")
    static void p06_mixed() {
        Run x = narrow();
        x.fails("m + s", Check.MIXED, 2);
        x.fails("m - s", Check.MIXED, 2);
        x.fails("m + 1", Check.MIXED, 2);
        x.fails("1 - m", Check.MIXED, 2);
        x.fails("m + m^2", Check.MIXED, 2);
        x.fails("m + m^-1", Check.MIXED, 2);
        x.fails("nil + 0", Check.MIXED, 4);
        x.fails("0 - nil", Check.MIXED, 2);
        x.fails("m s^2 + m s", Check.MIXED, 6);
        x.reckons("m s + s m", "2/1*1,1");
        x.reckons("m/m + 1", "2/1");
        x.reckons("nil + m", "1/1*1");
        x.reckons("high - high", "0/1*99");
    }

    @Says(in = "Terms", words = "MIXED (sum or difference of what has other POWERS),")
    static void p06_mixed_ofTheEighthBase() {
        Run x = new Run(64);
        x.defines(FileTests.lines("b% !", 0, 8), 8);
        x.fails("b7 + 1", Check.MIXED, 3);
        x.fails("b0 b7 + b0", Check.MIXED, 6);
        x.reckons("b7 + b7", "2/1*0,0,0,0,0,0,0,1");
    }

    @Says(in = "Terms", words = "MIXED (sum or difference of what has other POWERS),")
    static void p06_mixedGoesAheadOfLarge() {
        Run x = narrow();
        x.fails("big + big m", Check.MIXED, 4);
        x.fails("-big - big m", Check.MIXED, 5);
        x.fails("big + big", Check.LARGE, 4);
    }

    @Says(in = "Terms", words = "POWERS (one would be below -99 or above 99),")
    static void p06_powers_above99() {
        Run x = narrow();
        x.fails("high m", Check.POWERS, 5);
        x.fails("high * m", Check.POWERS, 5);
        x.fails("high / m^-1", Check.POWERS, 5);
        x.fails("(m^50)^2", Check.POWERS, 6);
        x.fails("(m^-50)^-2", Check.POWERS, 7);
        x.fails("(m^99)^99", Check.POWERS, 6);
        x.fails("high s m", Check.POWERS, 7);
        x.fails("0 high m", Check.POWERS, 7);
        x.reckons("m^98 m", "1/1*99");
        x.reckons("high / m^99", "1/1");
    }

    @Says(in = "Terms", words = "POWERS (one would be below -99 or above 99),")
    static void p06_powers_belowMinus99() {
        Run x = narrow();
        x.fails("low / m", Check.POWERS, 4);
        x.fails("low m^-1", Check.POWERS, 4);
        x.fails("low * m^-1", Check.POWERS, 4);
        x.fails("(m^-50)^2", Check.POWERS, 7);
        x.fails("(m^50)^-2", Check.POWERS, 6);
        x.fails("nil / high / m^2", Check.POWERS, 11);
        x.reckons("m^-98 / m", "1/1*-99");
        x.reckons("low m", "1/1*-98");
    }

    @Says(in = "Terms", words = "POWERS (one would be below -99 or above 99),")
    static void p06_powers_ofAnyBase() {
        Run x = new Run(64);
        x.defines(FileTests.lines("b% !", 0, 8), 8);
        for (int base = 0; base < 8; base++) {
            x.fails("b" + base + "^99 b" + base, Check.POWERS, 6);
            x.fails("b" + base + "^-99 / b" + base, Check.POWERS, 7);
        }
    }

    @Says(in = "Terms", words = "POWERS (one would be below -99 or above 99),")
    static void p06_powersGoesAheadOfLarge() {
        Run x = narrow();
        x.fails("big high * big m", Check.POWERS, 9);
        x.fails("(big m^2)^99", Check.POWERS, 9);
        x.fails("(big m)^99", Check.LARGE, 7);
        x.fails("1 / big high / big m", Check.POWERS, 13);
    }

    @Says(in = "Terms", words = "LARGE (of what comes of it, in lowest terms, the number above or below the line,"
        + " without sign, is 2 to the BITS or more);")
    static void p06_large_aboveTheLine() {
        Run x = narrow();
        x.fails("big + 1", Check.LARGE, 4);
        x.fails("big * 2", Check.LARGE, 4);
        x.fails("256 * 256", Check.LARGE, 4);
        x.fails("big / 1|2", Check.LARGE, 4);
        x.fails("2^16", Check.LARGE, 1);
        x.fails("4^8", Check.LARGE, 1);
        x.reckons("2^15 + (2^15 - 1)", "65535/1");
        x.reckons("255 * 257", "65535/1");
        x.reckons("40^3", "64000/1");
        x.fails("41^3", Check.LARGE, 2);
        x.fails("65535^99", Check.LARGE, 5);
    }

    @Says(in = "Terms", words = "LARGE (of what comes of it, in lowest terms, the number above or below the line,"
        + " without sign, is 2 to the BITS or more);")
    static void p06_large_belowTheLine() {
        Run x = narrow();
        x.reckons("1 / big", "1/65535");
        x.reckons("1|255 * 1|257", "1/65535");
        x.fails("1|256 * 1|256", Check.LARGE, 6);
        x.fails("1 / big / 2", Check.LARGE, 8);
        x.fails("1|257 + 1|256", Check.LARGE, 6);
        x.fails("1|257 - 1|256", Check.LARGE, 6);
        x.fails("2^-16", Check.LARGE, 1);
        x.reckons("2^-15", "1/32768");
        x.reckons("40^-3", "1/64000");
    }

    @Says(in = "Terms", words = "LARGE (of what comes of it, in lowest terms, the number above or below the line,"
        + " without sign, is 2 to the BITS or more);")
    static void p06_large_inLowestTerms() {
        Run x = narrow();
        x.reckons("1|65535 * 65535|2", "1/2");
        x.reckons("60000|7 * 7|60000", "1/1");
        x.reckons("60000 / 60000", "1/1");
        x.reckons("1|60000 + 1|60000", "1/30000");
        x.reckons("60000|7 - 60000|7", "0/1");
        x.reckons("1|65535 + 65534|65535", "1/1");
        x.reckons("655350e-1", "65535/1");
        x.reckons("0.00002", "1/50000");
    }

    @Says(in = "Terms", words = "LARGE (of what comes of it, in lowest terms, the number above or below the line,"
        + " without sign, is 2 to the BITS or more);")
    static void p06_large_withoutSign() {
        Run x = narrow();
        x.reckons("-big", "-65535/1");
        x.reckons("0 - big", "-65535/1");
        x.fails("-big - 1", Check.LARGE, 5);
        x.fails("0 - big - 1", Check.LARGE, 8);
        x.fails("(-2)^16", Check.LARGE, 4);
        x.fails("big (-2)", Check.LARGE, 4);
        x.reckons("(-2)^15", "-32768/1");
    }

    @Says(in = "Terms", words = "LARGE (of what comes of it, in lowest terms, the number above or below the line,"
        + " without sign, is 2 to the BITS or more);")
    static void p06_large_atEachWidth() {
        for (int bits = 17; bits <= 512; bits += bits < 70 ? 1 : 49) {
            Run x = new Run(bits);
            String half = "(2^" + (bits - 1) / 6 + ")^6 2^" + (bits - 1) % 6;
            x.defines("h " + half, 1);
            Check.due("faultOf(0) at " + bits, x.faultOf(0), 0);
            x.fails("h + h", Check.LARGE, 2);
            x.fails("1/h / 2", Check.LARGE, 4);
            x.put("h - 1 + h");
            Check.due("reckon of the largest at " + bits, x.reckon(), 1);
            BigInteger most = BigInteger.ONE.shiftLeft(bits).subtract(BigInteger.ONE);
            x.shows("the largest at " + bits, most + "/1");
            x.put("1 / (h - 1 + h)");
            Check.due("reckon of the least at " + bits, x.reckon(), 1);
            x.fails("h - 1 + h + 1", Check.LARGE, 10);
        }
    }

    @Says(in = "Terms", words = "at the sign (of - ahead: there),")
    static void p06_placeAtTheSign() {
        Run x = narrow();
        x.fails("big  +  1", Check.LARGE, 5);
        x.fails("m  -  1", Check.MIXED, 3);
        x.fails("big  *  2", Check.LARGE, 5);
        x.fails("1  /  0", Check.ZERO, 3);
        x.fails("2  ^  16", Check.LARGE, 3);
        x.fails("2  ^  - 16", Check.LARGE, 3);
        x.fails("1  |  0", Check.ZERO, 3);
        x.fails("(1 + 2)  ^  99", Check.LARGE, 9);
    }

    @Says(in = "Terms", words = "in a ROW at the first byte of the second POWER;")
    static void p06_placeInARow() {
        Run x = narrow();
        x.fails("big  2", Check.LARGE, 5);
        x.fails("big(2)", Check.LARGE, 3);
        x.fails("big (1 + 1)^2", Check.LARGE, 4);
        x.fails("high 3 m^2", Check.POWERS, 7);
        x.fails("1 2 big", Check.LARGE, 4);
        x.fails("big 4|2", Check.LARGE, 4);
        x.fails("2big", Check.LARGE, 1);
    }

    @Says(in = "Terms", words = "of a NUMBER LARGE at its first byte,")
    static void p06_placeOfANumber() {
        Run x = narrow();
        x.fails("65536", Check.LARGE, 0);
        x.fails("  65536", Check.LARGE, 2);
        x.fails("1 + 65536", Check.LARGE, 4);
        x.fails("1 + 1e5", Check.LARGE, 4);
        x.fails("2 0.00001", Check.LARGE, 2);
        x.fails("(1e-5)", Check.LARGE, 1);
        x.fails("m + 65536", Check.LARGE, 4);
    }

    @Says(in = "Terms", words = "of NUMBER | NUMBER ahead of the act each NUMBER itself.")
    static void p06_numberByNumber_eachNumberItself() {
        Run x = narrow();
        x.fails("65536|65536", Check.LARGE, 0);
        x.fails("65536|0", Check.LARGE, 0);
        x.fails("1|65536", Check.LARGE, 2);
        x.fails("0|65536", Check.LARGE, 2);
        x.fails("65535 | 0.00001", Check.LARGE, 8);
        x.fails("0.1|60000", Check.LARGE, 3);
        x.fails("2 * 1|65536", Check.LARGE, 6);
        x.reckons("65535|65535", "1/1");
    }

    @Says(in = "Terms", words = "0 to the 0 is 1.")
    static void p06_0ToThe0() {
        Run x = narrow();
        x.reckons("0^0", "1/1");
        x.reckons("0^-0", "1/1");
        x.reckons("0^00", "1/1");
        x.reckons("nil^0", "1/1");
        x.reckons("(1 - 1)^0", "1/1");
        x.reckons("(-5|3 m)^0", "1/1");
    }
}
