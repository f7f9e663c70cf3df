/** Promise 7: turn. */
public final class TurnTests {
    public static void main(String[] args) {
        Sentences.run(TurnTests.class);
    }

    private static Run measures() {
        Run x = new Run(64);
        x.defines("m !\ns !\ninch 0.0254 m\nfoot 12 inch\nmile 5280 foot\nhour 3600 s\nnil 0 m", 7);
        return x;
    }

    @Says(in = "Promise 7", words = "The TAPE is an EXPR, >, and an EXPR: the RESULT is the VALUE of the first"
        + " divided by that of the second: 1.")
    static void p07_theFirstDividedByTheSecond() {
        Run x = measures();
        x.turns("60 mile/hour > m/s", "16764/625");
        x.turns("foot>inch", "12/1");
        x.turns("inch > foot", "1/12");
        x.turns("0 m > -inch", "0/1");
        x.turns("-1 m > inch", "-5000/127");
        x.turns("1 + 2 > 3 + 4", "3/7");
        x.turns("-1 > -2", "1/2");
        x.turns("nil > m", "0/1");
    }

    @Says(in = "Promise 7", words = "The TAPE is an EXPR, >, and an EXPR: the RESULT is the VALUE of the first"
        + " divided by that of the second: 1.")
    static void p07_theResultHasNoPowers() {
        Run x = measures();
        x.reckons("m^3", "1/1*3");
        x.turns("m^99 > 2 m^99", "1/2");
        x.turns("3 m^-99 > m^-99", "3/1");
        x.turns("6 m s^2 > 4 s^2 m", "3/2");
    }

    @Says(in = "Promise 7", words = "Else -10 less the place of its FAULT: SYNTAX;")
    static void p07_syntax() {
        Run x = measures();
        x.turnFails("", Check.SYNTAX, 0);
        x.turnFails("m", Check.SYNTAX, 1);
        x.turnFails("m >", Check.SYNTAX, 3);
        x.turnFails("> m", Check.SYNTAX, 0);
        x.turnFails(">", Check.SYNTAX, 0);
        x.turnFails("m > m > m", Check.SYNTAX, 6);
        x.turnFails("m > > m", Check.SYNTAX, 4);
        x.turnFails("(m > m)", Check.SYNTAX, 3);
        x.turnFails("m > m)", Check.SYNTAX, 5);
        x.turnFails("(m > m", Check.SYNTAX, 3);
        x.turnFails("m !", Check.SYNTAX, 2);
        x.turnFails("m > m !", Check.SYNTAX, 6);
        x.turnFails("m + > m", Check.SYNTAX, 4);
    }

    @Says(in = "Promise 7", words = "Else -10 less the place of its FAULT: SYNTAX;")
    static void p07_syntaxGoesAheadOfAllOthers() {
        Run x = measures();
        x.turnFails("1/0 > m m)", Check.SYNTAX, 9);
        x.turnFails("zz > 1 +", Check.SYNTAX, 8);
        x.turnFails("zz", Check.SYNTAX, 2);
        x.turnFails("m > s >", Check.SYNTAX, 6);
        x.turnFails("m > nil ?", Check.SYNTAX, 8);
    }

    @Says(in = "Promise 7", words = "of the first EXPR;")
    static void p07_faultOfTheFirst() {
        Run x = measures();
        x.turnFails("zz > 1/0", Check.UNKNOWN, 0);
        x.turnFails("1/0 > zz", Check.ZERO, 1);
        x.turnFails("m + s > zz", Check.MIXED, 2);
        x.turnFails("m^99 m > 0", Check.POWERS, 5);
        x.turnFails("2^64 > s", Check.LARGE, 1);
    }

    @Says(in = "Promise 7", words = "of the second one;")
    static void p07_faultOfTheSecond() {
        Run x = measures();
        x.turnFails("1 > zz", Check.UNKNOWN, 4);
        x.turnFails("m > 1/0", Check.ZERO, 5);
        x.turnFails("m > s + 1", Check.MIXED, 6);
        x.turnFails("1 > m^99 m", Check.POWERS, 9);
        x.turnFails("m > 2^64", Check.LARGE, 5);
        x.turnFails("m > -zz", Check.UNKNOWN, 5);
    }

    @Says(in = "Promise 7", words = "then, at the >: MIXED (they have not the same POWERS),")
    static void p07_mixed() {
        Run x = measures();
        x.turnFails("m > s", Check.MIXED, 2);
        x.turnFails("m > 1", Check.MIXED, 2);
        x.turnFails("1 > m", Check.MIXED, 2);
        x.turnFails("m > m^2", Check.MIXED, 2);
        x.turnFails("m  >  1/m", Check.MIXED, 3);
        x.turnFails("0 > nil", Check.MIXED, 2);
        x.turnFails("m^99 > m^-1", Check.MIXED, 5);
        x.turnFails("m^-99 > m", Check.MIXED, 6);
    }

    @Says(in = "Promise 7", words = "ZERO, LARGE, in this order.")
    static void p07_zero() {
        Run x = measures();
        x.turnFails("1 > 0", Check.ZERO, 2);
        x.turnFails("0 > 0", Check.ZERO, 2);
        x.turnFails("m  >  nil", Check.ZERO, 3);
        x.turnFails("nil > nil", Check.ZERO, 4);
    }

    @Says(in = "Promise 7", words = "ZERO, LARGE, in this order.")
    static void p07_large() {
        Run x = measures();
        x.turnFails("2^63 > 1|2", Check.LARGE, 5);
        x.turns("2^62 > 1|2", "9223372036854775808/1");
        x.turnFails("1|3  >  2^63", Check.LARGE, 5);
        x.turns("1|2 > 2^62", "1/9223372036854775808");
        x.turnFails("-2^63 > 1|3", Check.LARGE, 6);
        x.turns("2^63 > 2^63", "1/1");
    }

    @Says(in = "Promise 7", words = "ZERO, LARGE, in this order.")
    static void p07_mixedGoesAheadOfZeroAndLarge() {
        Run x = measures();
        x.turnFails("s > nil", Check.MIXED, 2);
        x.turnFails("1 > nil", Check.MIXED, 2);
        x.turnFails("2^63 m > 1|3", Check.MIXED, 7);
    }

    @Says(in = "Terms", words = "What an act with a FAULT would change stays as it was, but the TAPE.")
    static void p07_aFaultLeavesTheResult() {
        Run x = measures();
        x.reckons("5 m", "5/1*1");
        String[] texts = {"m", "zz > 1", "1 > zz", "m > s", "m > nil", "2^63 > 1|3"};
        for (String text : texts) {
            x.put(text);
            Check.holds("turn \"" + text + "\" has a FAULT", x.turn() <= -10);
            x.shows("after turn \"" + text + "\"", "5/1*1");
            Check.due("RESULTS", x.told(4), 1);
        }
    }
}
