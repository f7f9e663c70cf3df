/** The tokens of a text, as promises 4, 6 and 7 read them. */
public final class TokenTests {
    private static final String NAME24 = "abcdefghijklmnopqrstuvwx";
    private static final String ONES60 = "1".repeat(60);

    public static void main(String[] args) {
        Sentences.run(TokenTests.class);
    }

    @Says(in = "Terms", words = "BLANKS are bytes 32, 9, 13.")
    static void p06_blanks_32_9_13() {
        Run x = new Run(64);
        x.reckons(" 7 ", "7/1");
        x.reckons("\t7\t", "7/1");
        x.reckons("\r7\r", "7/1");
        x.reckons(" \t\r7 \r\t+\t \r 8\r\t ", "15/1");
    }

    @Says(in = "Terms", words = "BLANKS are bytes 32, 9, 13.")
    static void p06_blanks_noOtherByte() {
        Run x = new Run(64);
        for (int b : new int[] {0, 8, 10, 11, 12, 14, 31, 127, 128, 133, 160, 255}) {
            x.fails("7 " + (char) b, Check.SYNTAX, 2);
        }
    }

    @Says(in = "Terms", words = "BLANKS are bytes 32, 9, 13.")
    static void p04_p07_blanks() {
        Run x = new Run(64);
        x.defines("\tm\t!\r\n\r\tf\r 3\tm \r\nk-\t\r5", 3);
        x.turns("\rkf\t>\r\tm ", "15/1");
        x.refuses("g\u000b1", Check.SYNTAX, 1);
        x.turnFails("1\u000c>1", Check.SYNTAX, 1);
    }

    @Says(in = "Terms", words = "TOKENS, each as long as can be:")
    static void p06_tokens_asLongAsCanBe() {
        Run x = new Run(64);
        x.defines("a 2\nb 3\nab 7\na1 11\ne 13\ne3 17", 6);
        x.reckons("ab", "7/1");
        x.reckons("a1", "11/1");
        x.reckons("12", "12/1");
        x.reckons("1e3", "1000/1");
        x.reckons("2e", "26/1");
        x.reckons("1e3e3", "17000/1");
        x.reckons("1.5e1", "15/1");
    }

    @Says(in = "Terms", words = "a NAME: a letter (a..z, A..Z) or 95, then these or digits,")
    static void p06_name_whatItBeginsWith() {
        Run x = new Run(64);
        for (String name : new String[] {"a", "z", "A", "Z", "_", "m", "M"}) {
            x.defines(name + " 5", 1);
            x.reckons(name, "5/1");
        }
        for (char other : new char[] {'@', '[', '`', '{', '\\', '}', '~', '$', '\'', '"', ':', '\u00e4', '\u00c1'}) {
            x.fails(other + "", Check.SYNTAX, 0);
        }
    }

    @Says(in = "Terms", words = "a NAME: a letter (a..z, A..Z) or 95, then these or digits,")
    static void p06_name_whatItGoesOnWith() {
        Run x = new Run(64);
        x.defines("azAZ_09 5\n_0 7\n__ 11", 3);
        x.reckons("azAZ_09", "5/1");
        x.reckons("_0", "7/1");
        x.reckons("__", "11/1");
        for (char other : new char[] {'@', '[', '`', '{', ':', '.', '$', '\u00e4'}) {
            x.fails("__" + other, Check.SYNTAX, 2);
        }
        x.reckons("9__", "99/1");
    }

    @Says(in = "Terms", words = "24 bytes at most;")
    static void p04_name_24BytesAtMost() {
        Run x = new Run(64);
        x.refuses(NAME24 + "y 1", Check.SYNTAX, 0);
        x.refuses("a 1\n " + NAME24 + "y !", Check.SYNTAX, 5);
        x.refuses(NAME24 + "y- 1", Check.SYNTAX, 0);
        x.defines(NAME24 + " 1\nb 2 " + NAME24 + "\n" + NAME24 + "- 4\n" + NAME24.toUpperCase() + "!", 4);
        x.refuses("c 2 " + NAME24 + "y", Check.SYNTAX, 4);
        Check.due("byte 23", x.name(0, 23), 'x');
        Check.due("byte 24", x.name(0, 24), Check.NONE);
    }

    @Says(in = "Terms", words = "24 bytes at most;")
    static void p06_p07_name_24BytesAtMost() {
        Run x = new Run(64);
        x.defines(NAME24 + " 3\n" + NAME24.substring(1) + " 5", 2);
        x.reckons(NAME24, "3/1");
        x.reckons(NAME24.substring(1) + "s", "5/1");
        x.fails("1 " + NAME24 + "s", Check.SYNTAX, 2);
        x.fails("1 " + NAME24 + "1", Check.SYNTAX, 2);
        x.fails("_".repeat(25), Check.SYNTAX, 0);
        x.fails("_".repeat(24), Check.UNKNOWN, 0);
        x.fails("1 " + "_".repeat(300), Check.SYNTAX, 2);
        x.turns(NAME24 + ">" + NAME24, "1/1");
        x.turnFails(NAME24 + ">" + NAME24 + "s", Check.SYNTAX, 25);
    }

    @Says(in = "Terms", words = "a NUMBER: digits;")
    static void p06_number_digits() {
        Run x = new Run(64);
        x.reckons("0", "0/1");
        x.reckons("9", "9/1");
        x.reckons("0123456789", "123456789/1");
        x.reckons("000", "0/1");
        x.fails(":", Check.SYNTAX, 0);
        x.fails("1:", Check.SYNTAX, 1);
        x.fails("\u00b2", Check.SYNTAX, 0);
    }

    @Says(in = "Terms", words = "then, if 46 and a digit come, 46 and all digits;")
    static void p06_number_point() {
        Run x = new Run(64);
        x.defines("e 7", 1);
        x.reckons("1.5", "3/2");
        x.reckons("0.0625", "1/16");
        x.reckons("10.50", "21/2");
        x.fails("1.", Check.SYNTAX, 1);
        x.fails("1.x", Check.SYNTAX, 1);
        x.fails("1.e1", Check.SYNTAX, 1);
        x.fails("1. 5", Check.SYNTAX, 1);
        x.fails(".5", Check.SYNTAX, 0);
        x.fails("1..5", Check.SYNTAX, 1);
        x.fails("1.5.2", Check.SYNTAX, 3);
        x.fails("1,5", Check.SYNTAX, 1);
    }

    @Says(in = "Terms", words = "then, if an e (101) comes and a digit behind it, or + or - and a digit, the e,"
        + " that sign, and all digits: its EXPONENT;")
    static void p06_number_exponent() {
        Run x = new Run(64);
        x.reckons("2e3", "2000/1");
        x.reckons("2e+3", "2000/1");
        x.reckons("2e-3", "1/500");
        x.reckons("1.25e12", "1250000000000/1");
        x.reckons("2e0", "2/1");
        x.reckons("2e-0", "2/1");
        x.reckons("2e010", "20000000000/1");
    }

    @Says(in = "Terms", words = "then, if an e (101) comes and a digit behind it, or + or - and a digit, the e,"
        + " that sign, and all digits: its EXPONENT;")
    static void p06_number_eThatBeginsNoExponent() {
        Run x = new Run(64);
        x.defines("e 7\nE3 13\nex 17\ne_1 19", 4);
        x.reckons("2e", "14/1");
        x.reckons("2E3", "26/1");
        x.reckons("2ex", "34/1");
        x.reckons("2e_1", "38/1");
        x.reckons("2e+e", "21/1");
        x.reckons("2e-e", "7/1");
        x.reckons("2e + 3", "17/1");
        x.reckons("2e- 3", "11/1");
        x.reckons("2e 3", "42/1");
        x.reckons("2.5e", "35/2");
        x.fails("2e+", Check.SYNTAX, 3);
        x.fails("2e+-3", Check.SYNTAX, 3);
        x.fails("2e.5", Check.SYNTAX, 2);
    }

    @Says(in = "Terms", words = "then, if an e (101) comes and a digit behind it, or + or - and a digit, the e,"
        + " that sign, and all digits: its EXPONENT;")
    static void p06_number_whatIsBehindAnExponent() {
        Run x = new Run(64);
        x.defines("m 3\ne5 5", 2);
        x.reckons("2e3m", "6000/1");
        x.reckons("2e3e5", "10000/1");
        x.fails("2e3.5", Check.SYNTAX, 3);
        x.reckons("2e3-1", "1999/1");
        x.reckons("2e-3+1", "501/500");
    }

    @Says(in = "Terms", words = "it has 60 digits at most ahead of the e,")
    static void p06_number_60DigitsAtMost() {
        Run x = new Run(512);
        x.reckons(ONES60, ONES60 + "/1");
        x.fails("2 " + ONES60 + "1", Check.SYNTAX, 2);
        x.fails("0" + ONES60, Check.SYNTAX, 0);
        x.fails("2 " + "0".repeat(300), Check.SYNTAX, 2);
    }

    @Says(in = "Terms", words = "it has 60 digits at most ahead of the e,")
    static void p06_number_60DigitsOnBothSidesOfThePoint() {
        Run x = new Run(512);
        x.reckons("1." + "1".repeat(59) + "e59", ONES60 + "/1");
        x.fails("1." + ONES60, Check.SYNTAX, 0);
        x.fails(ONES60 + ".0", Check.SYNTAX, 0);
        x.fails("2+" + "0".repeat(30) + "." + "0".repeat(31), Check.SYNTAX, 2);
        x.reckons("0".repeat(30) + "." + "0".repeat(30), "0/1");
        x.reckons("0." + "0".repeat(58) + "1e59", "1/1");
    }

    @Says(in = "Terms", words = "it has 60 digits at most ahead of the e,")
    static void p06_number_60DigitsWithoutThoseOfTheExponent() {
        Run x = new Run(512);
        x.reckons(ONES60 + "e003", ONES60 + "000/1");
        x.fails(ONES60 + "1e-60", Check.SYNTAX, 0);
    }

    @Says(in = "Terms", words = "it has 60 digits at most ahead of the e,")
    static void p04_p07_number_60DigitsAtMost() {
        Run x = new Run(512);
        x.defines("a " + ONES60, 1);
        x.refuses("b 1 " + ONES60 + "1", Check.SYNTAX, 4);
        x.turns(ONES60 + ">" + ONES60, "1/1");
        x.turnFails("1>" + ONES60 + "1", Check.SYNTAX, 2);
    }

    @Says(in = "Terms", words = "at most 3 in the EXPONENT;")
    static void p06_number_3DigitsInTheExponent() {
        Run x = new Run(512);
        x.reckons("1e001", "10/1");
        x.reckons("1e+002", "100/1");
        x.reckons("1e-001", "1/10");
        x.fails("1e0001", Check.SYNTAX, 0);
        x.fails("3 1e+0001", Check.SYNTAX, 2);
        x.fails("3 1e-0001", Check.SYNTAX, 2);
        x.fails("1.5e0000", Check.SYNTAX, 0);
        x.fails("3+1e" + "0".repeat(300), Check.SYNTAX, 2);
    }

    @Says(in = "Terms", words = "at most 3 in the EXPONENT;")
    static void p06_number_theLargestExponents() {
        Run x = new Run(512);
        x.fails("1e999", Check.LARGE, 0);
        x.fails("1e-999", Check.LARGE, 0);
        x.reckons("0e999", "0/1");
        x.reckons("0.00e-999", "0/1");
        x.fails("9".repeat(60) + "e999", Check.LARGE, 0);
        x.fails("0." + "9".repeat(59) + "e-999", Check.LARGE, 0);
    }

    @Says(in = "Terms", words = "the signs + - * / ^ | ( ) > !.")
    static void p06_p07_signs_each() {
        Run x = new Run(64);
        x.reckons("5+2", "7/1");
        x.reckons("5-2", "3/1");
        x.reckons("5*2", "10/1");
        x.reckons("5/2", "5/2");
        x.reckons("5^2", "25/1");
        x.reckons("5|2", "5/2");
        x.reckons("(5)", "5/1");
        x.turns("5>2", "5/2");
        x.defines("m!", 1);
        x.fails("5!", Check.SYNTAX, 1);
        x.fails("5>2", Check.SYNTAX, 1);
    }

    @Says(in = "Terms", words = "the signs + - * / ^ | ( ) > !.")
    static void p06_signs_noOthers() {
        Run x = new Run(64);
        for (char other : "$%&',.:;<=?@[\\]`{}~\"".toCharArray()) {
            x.fails("5 " + other + " 2", Check.SYNTAX, 2);
        }
    }

    @Says(in = "Terms", words = "BLANKS may stand between tokens,")
    static void p06_blanksMayStandBetweenTokens() {
        Run x = new Run(64);
        x.defines("m 3", 1);
        x.reckons(" - ( 1 | 2 ) ^ - 2 m * 5 ", "-60/1");
        x.reckons("-(1|2)^-2m*5", "-60/1");
        x.reckons("2m", "6/1");
        x.reckons("2(m)m", "18/1");
        x.reckons("2 m", "6/1");
    }

    @Says(in = "Terms", words = "nowhere within one.")
    static void p06_blanksStandWithinNoToken() {
        Run x = new Run(64);
        x.defines("a 2\nb 3\nab 7\ne3 11\ne 13", 5);
        x.reckons("a b", "6/1");
        x.reckons("1 2", "2/1");
        x.reckons("1 e3", "11/1");
        x.reckons("1e 3", "39/1");
        x.reckons("1e+ 3", "16/1");
        x.fails("1 .5", Check.SYNTAX, 2);
        x.fails("1. 5", Check.SYNTAX, 1);
    }
}
