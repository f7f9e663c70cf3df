/** What an EXPR is, and where a text has its SYNTAX; as promises 6 and 7 (and 4 for a line) read it. */
public final class GrammarTests {
    private static final String OPEN20 = "(".repeat(20);
    private static final String CLOSE20 = ")".repeat(20);

    public static void main(String[] args) {
        Sentences.run(GrammarTests.class);
    }

    @Says(in = "Terms", words = "EXPR: [-] TERM { (+ or -) TERM }.")
    static void p06_expr_minusAheadOfTheFirstTermAlone() {
        Run x = new Run(64);
        x.reckons("-5", "-5/1");
        x.reckons("-5-2+1", "-6/1");
        x.reckons("3(-5)", "-15/1");
        x.reckons("1+(-5)", "-4/1");
        x.fails("--5", Check.SYNTAX, 1);
        x.fails("+5", Check.SYNTAX, 0);
        x.fails("1+-5", Check.SYNTAX, 2);
        x.fails("1--5", Check.SYNTAX, 2);
        x.fails("(+5)", Check.SYNTAX, 1);
    }

    @Says(in = "Terms", words = "EXPR: [-] TERM { (+ or -) TERM }.")
    static void p06_expr_aTermIsDueBehindASign() {
        Run x = new Run(64);
        x.fails("-", Check.SYNTAX, 1);
        x.fails("1+", Check.SYNTAX, 2);
        x.fails("1-", Check.SYNTAX, 2);
        x.fails("1+)", Check.SYNTAX, 2);
        x.fails("1++2", Check.SYNTAX, 2);
        x.fails("(-)", Check.SYNTAX, 2);
    }

    @Says(in = "Terms", words = "TERM: ROW { (* or /) ROW }.")
    static void p06_term() {
        Run x = new Run(64);
        x.reckons("12/2 3", "2/1");
        x.reckons("12/2*3", "18/1");
        x.reckons("2 3*4 5/6 2", "10/1");
        x.fails("*2", Check.SYNTAX, 0);
        x.fails("2*", Check.SYNTAX, 2);
        x.fails("2/", Check.SYNTAX, 2);
        x.fails("2*/3", Check.SYNTAX, 2);
        x.fails("2*-3", Check.SYNTAX, 2);
        x.fails("2/-3", Check.SYNTAX, 2);
        x.fails("2*+3", Check.SYNTAX, 2);
    }

    @Says(in = "Terms", words = "ROW: POWER { POWER }, one behind the other without a sign.")
    static void p06_row() {
        Run x = new Run(64);
        x.defines("a 3", 1);
        x.reckons("2 a", "6/1");
        x.reckons("a 2", "6/1");
        x.reckons("2 3^2 a", "54/1");
        x.reckons("(2)(3)a 1|2", "9/1");
        x.fails("2 3 !", Check.SYNTAX, 4);
        x.fails("a ^", Check.SYNTAX, 3);
    }

    @Says(in = "Terms", words = "POWER: ONE [ ^ [-] N ],")
    static void p06_power() {
        Run x = new Run(64);
        x.reckons("2^3", "8/1");
        x.reckons("2^-3", "1/8");
        x.reckons("2 ^ - 3", "1/8");
        x.fails("2^", Check.SYNTAX, 2);
        x.fails("2^-", Check.SYNTAX, 3);
        x.fails("2^--1", Check.SYNTAX, 3);
        x.fails("2^+1", Check.SYNTAX, 2);
        x.fails("2^3^2", Check.SYNTAX, 3);
        x.fails("^2", Check.SYNTAX, 0);
        x.reckons("(2^3)^2", "64/1");
    }

    @Says(in = "Terms", words = "N being a NUMBER of digits alone, at most 99.")
    static void p06_power_nIsANumber() {
        Run x = new Run(64);
        x.defines("a 2", 1);
        x.fails("2^a", Check.SYNTAX, 2);
        x.fails("2^(1)", Check.SYNTAX, 2);
        x.fails("2^-a", Check.SYNTAX, 3);
        x.fails("2^3|2", Check.SYNTAX, 3);
        x.reckons("2^3 a", "16/1");
        x.reckons("2^3a", "16/1");
        x.fails("2^3.", Check.SYNTAX, 3);
        x.fails("2^3e", Check.UNKNOWN, 3);
    }

    @Says(in = "Terms", words = "N being a NUMBER of digits alone, at most 99.")
    static void p06_power_99IsTheLargestN() {
        Run x = new Run(128);
        x.reckons("1^99", "1/1");
        x.reckons("2^99", "633825300114114700748351602688/1");
        x.reckons("2^-99", "1/633825300114114700748351602688");
        x.reckons("1^0099", "1/1");
        x.reckons("2^" + "0".repeat(58) + "10", "1024/1");
        x.reckons("2^0", "1/1");
        x.reckons("2^-0", "1/1");
    }

    @Says(in = "Terms", words = "nor an N above 99 or with a point or EXPONENT.")
    static void p06_power_nAbove99() {
        Run x = new Run(64);
        x.fails("1^100", Check.SYNTAX, 2);
        x.fails("1^-100", Check.SYNTAX, 3);
        x.fails("1 ^ - 00100", Check.SYNTAX, 6);
        x.fails("1^4294967297", Check.SYNTAX, 2);
        x.fails("1^18446744073709551617", Check.SYNTAX, 2);
        x.fails("1^" + "9".repeat(60), Check.SYNTAX, 2);
        x.fails("1^" + "0".repeat(61), Check.SYNTAX, 2);
        x.turnFails("1>1^100", Check.SYNTAX, 4);
        x.refuses("a 1^100", Check.SYNTAX, 4);
    }

    @Says(in = "Terms", words = "nor an N above 99 or with a point or EXPONENT.")
    static void p06_power_nWithAPointOrExponent() {
        Run x = new Run(64);
        x.fails("2^1.0", Check.SYNTAX, 2);
        x.fails("2^1e1", Check.SYNTAX, 2);
        x.fails("2^1e0", Check.SYNTAX, 2);
        x.fails("2^-1e-0", Check.SYNTAX, 3);
        x.fails("2^-2.0", Check.SYNTAX, 3);
        x.turnFails("1>2^2.5", Check.SYNTAX, 4);
        x.refuses("a 2^2.0", Check.SYNTAX, 4);
    }

    @Says(in = "Terms", words = "ONE: NUMBER [ | NUMBER ], or NAME, or ( EXPR ),")
    static void p06_one_numberByNumber() {
        Run x = new Run(64);
        x.defines("a 2", 1);
        x.reckons("3|4", "3/4");
        x.reckons("3 | 4", "3/4");
        x.reckons("1.5|0.5e1", "3/10");
        x.reckons("2|3^2", "4/9");
        x.reckons("2|3 3|4", "1/2");
        x.reckons("1|2a", "1/1");
        x.fails("1|", Check.SYNTAX, 2);
        x.fails("1|a", Check.SYNTAX, 2);
        x.fails("1|-2", Check.SYNTAX, 2);
        x.fails("1|(2)", Check.SYNTAX, 2);
        x.fails("1|2|3", Check.SYNTAX, 3);
        x.fails("a|2", Check.SYNTAX, 1);
        x.fails("(1)|2", Check.SYNTAX, 3);
        x.fails("|2", Check.SYNTAX, 0);
    }

    @Says(in = "Terms", words = "ONE: NUMBER [ | NUMBER ], or NAME, or ( EXPR ),")
    static void p06_one_exprInParentheses() {
        Run x = new Run(64);
        x.reckons("(1+2)3", "9/1");
        x.reckons("(1+2)(-4)", "-12/1");
        x.reckons("(1+2)^2", "9/1");
        x.reckons("2 (1 - (3 - 5)) 2", "12/1");
        x.fails("()", Check.SYNTAX, 1);
        x.fails("(", Check.SYNTAX, 1);
        x.fails(")", Check.SYNTAX, 0);
        x.fails("(1", Check.SYNTAX, 2);
        x.fails("(1))", Check.SYNTAX, 3);
        x.fails("1)", Check.SYNTAX, 1);
        x.fails("((1)", Check.SYNTAX, 4);
        x.fails("(1>2)", Check.SYNTAX, 2);
        x.fails("(1 !)", Check.SYNTAX, 3);
        x.fails("1 (2", Check.SYNTAX, 4);
    }

    @Says(in = "Terms", words = "20 within one another at most.")
    static void p06_nested_20() {
        Run x = new Run(64);
        x.reckons(OPEN20 + "7" + CLOSE20, "7/1");
        x.reckons("-(".repeat(20) + "7" + CLOSE20, "7/1");
        x.reckons("1+2*3(".repeat(20) + "0" + CLOSE20, "731231688012595/1");
    }

    @Says(in = "Terms", words = "20 within one another at most.")
    static void p06_nested_thoseThatAreClosedDoNotCount() {
        Run x = new Run(64);
        x.reckons(OPEN20 + "7" + CLOSE20 + OPEN20 + "-7" + CLOSE20, "-49/1");
        x.reckons("(1)".repeat(25), "1/1");
        x.reckons("(".repeat(19) + "(1)(2)(3)" + ")".repeat(19), "6/1");
    }

    @Says(in = "Terms", words = "The 21st ( within others can't stand,")
    static void p06_nested_the21st() {
        Run x = new Run(64);
        x.fails(OPEN20 + "(7)" + CLOSE20, Check.SYNTAX, 20);
        x.fails(OPEN20 + "2(7)" + CLOSE20, Check.SYNTAX, 21);
        x.fails("1+" + OPEN20 + "-(7)" + CLOSE20, Check.SYNTAX, 23);
        x.fails("(".repeat(300), Check.SYNTAX, 20);
        x.fails("(1)" + OPEN20 + "7 (7)" + CLOSE20, Check.SYNTAX, 25);
        x.fails(OPEN20, Check.SYNTAX, 20);
    }

    @Says(in = "Terms", words = "The 21st ( within others can't stand,")
    static void p07_nested_eachExprForItself() {
        Run x = new Run(64);
        x.turns(OPEN20 + "8" + CLOSE20 + ">" + OPEN20 + "4" + CLOSE20, "2/1");
        x.turnFails("1>" + OPEN20 + "(4)" + CLOSE20, Check.SYNTAX, 22);
        x.turnFails(OPEN20 + "(4)" + CLOSE20 + ">1", Check.SYNTAX, 20);
    }

    @Says(in = "Terms", words = "The 21st ( within others can't stand,")
    static void p04_nested_the21st() {
        Run x = new Run(64);
        x.defines("a " + OPEN20 + "8" + CLOSE20 + "\nb- " + OPEN20 + "4" + CLOSE20, 2);
        x.reckons("ba", "32/1");
        x.refuses("c " + OPEN20 + "(8)" + CLOSE20, Check.SYNTAX, 22);
    }

    @Says(in = "Terms", words = "SYNTAX is a fault at the first token that can't stand there, being none"
        + " (then at its first byte; a NAME or NUMBER too long likewise),")
    static void p06_syntax_noToken() {
        Run x = new Run(64);
        x.fails("?", Check.SYNTAX, 0);
        x.fails("  ?", Check.SYNTAX, 2);
        x.fails("1 + ?", Check.SYNTAX, 4);
        x.fails("1 + 2?", Check.SYNTAX, 5);
        x.fails("1 ? ?", Check.SYNTAX, 2);
        x.fails("1 ? )", Check.SYNTAX, 2);
        x.fails("1 ) ?", Check.SYNTAX, 2);
        x.fails("a" + "\u00e9", Check.SYNTAX, 1);
    }

    @Says(in = "Terms", words = "a NAME or NUMBER too long likewise")
    static void p06_syntax_tooLong() {
        Run x = new Run(64);
        x.fails(" a (" + "n".repeat(25) + ")", Check.SYNTAX, 4);
        x.fails(" a (" + "1".repeat(61) + ")", Check.SYNTAX, 4);
        x.fails(" a (0." + "1".repeat(60) + ")", Check.SYNTAX, 4);
        x.fails(" a (1e1234)", Check.SYNTAX, 4);
        x.fails(" a 1|1e1234", Check.SYNTAX, 5);
        x.fails("1 )" + "n".repeat(25), Check.SYNTAX, 2);
    }

    @Says(in = "Terms", words = "or another than could go on;")
    static void p06_syntax_anotherThanCouldGoOn() {
        Run x = new Run(64);
        x.fails("1 + + 2", Check.SYNTAX, 4);
        x.fails("1 > 2", Check.SYNTAX, 2);
        x.fails("1 ! 2", Check.SYNTAX, 2);
        x.fails("2 ^ zz", Check.SYNTAX, 4);
        x.fails("(1 + 2 > 3)", Check.SYNTAX, 7);
        x.fails("1 | zz + (", Check.SYNTAX, 4);
    }

    @Says(in = "Terms", words = "the end of the text, or of the line, counts as one (at the place behind its last"
        + " byte, in a line at byte 35 or 10 or the TAPE's end).")
    static void p06_p07_syntax_theEndOfTheText() {
        Run x = new Run(64);
        x.fails("", Check.SYNTAX, 0);
        x.fails("   ", Check.SYNTAX, 3);
        x.fails("1 +", Check.SYNTAX, 3);
        x.fails("1 + \t\r", Check.SYNTAX, 6);
        x.fails("(1 ", Check.SYNTAX, 3);
        x.turnFails("", Check.SYNTAX, 0);
        x.turnFails("1", Check.SYNTAX, 1);
        x.turnFails("1 ", Check.SYNTAX, 2);
        x.turnFails("1 > ", Check.SYNTAX, 4);
    }

    @Says(in = "Terms", words = "in a line at byte 35 or 10 or the TAPE's end).")
    static void p04_syntax_theEndOfTheLine() {
        Run x = new Run(64);
        x.refuses("m", Check.SYNTAX, 1);
        x.refuses("m  ", Check.SYNTAX, 3);
        x.refuses("m  # !", Check.SYNTAX, 3);
        x.refuses("m#", Check.SYNTAX, 1);
        x.refuses("m  \n!", Check.SYNTAX, 3);
        x.refuses("m 2 +\nx !", Check.SYNTAX, 5);
        x.refuses("m 2 + \r\n3", Check.SYNTAX, 7);
        x.refuses("x (1 #\n)", Check.SYNTAX, 5);
        x.refuses("x (1\n)", Check.SYNTAX, 4);
        x.refuses("m 1\nx- ", Check.SYNTAX, 7);
        x.refuses("m 1\nx -", Check.SYNTAX, 7);
    }

    /** What a text that broke off had begun must not go on in the next one. */
    @Says(in = "What it is", words = "an act that reads it uses all of it up, whatever comes of it.")
    static void p06_p07_syntax_endsWithItsText() {
        String[] broken = {"1 +", "1 -", "2 *", "2 /", "-", "1 + 2 * 3 (", "-(-(", "2 (3 + (", "1 2 ^", "3 |", "(((((("};
        for (String text : broken) {
            Run x = new Run(64);
            x.fails(text, Check.SYNTAX, text.length());
            x.reckons("7 - 2 * 3", "1/1");
            x.turnFails(text, Check.SYNTAX, text.length());
            x.turns("2 + 3 > -1", "-5/1");
            x.turnFails("1 > " + text, Check.SYNTAX, text.length() + 4);
            x.reckons("5", "5/1");
            x.reckons("-(".repeat(20) + "7" + CLOSE20, "7/1");
        }
    }

    @Says(in = "What it is", words = "an act that reads it uses all of it up, whatever comes of it.")
    static void p04_syntax_endsWithItsText() {
        Run x = new Run(64);
        x.refuses("a 1 + 2 * 3 (", Check.SYNTAX, 13);
        x.defines("a 5\nb -a", 2);
        x.refuses("c- -(", Check.SYNTAX, 5);
        x.reckons("b", "-5/1");
        x.fails("2 (3 +", Check.SYNTAX, 6);
        x.defines("c 7", 1);
        x.reckons("c", "7/1");
    }

    @Says(in = "Terms", words = "In a text that is no FILE bytes 10 and 35 are none.")
    static void p06_p07_bytes10And35AreNone() {
        Run x = new Run(64);
        x.fails("1\n", Check.SYNTAX, 1);
        x.fails("\n1", Check.SYNTAX, 0);
        x.fails("1 +\n2", Check.SYNTAX, 3);
        x.fails("1 # 2", Check.SYNTAX, 2);
        x.fails("#", Check.SYNTAX, 0);
        x.turnFails("1 > 2\n", Check.SYNTAX, 5);
        x.turnFails("1 > 2 # 3", Check.SYNTAX, 6);
        x.turnFails("1\n> 2", Check.SYNTAX, 1);
    }
}
