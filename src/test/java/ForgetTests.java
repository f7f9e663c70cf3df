/** Promise 5: forget. */
public final class ForgetTests {
    public static void main(String[] args) {
        Sentences.run(ForgetTests.class);
    }

    @Says(in = "Promise 5", words = "The latest n DEFINITIONS go from the book: how many are left.")
    static void p05_theLatestGo() {
        Run x = new Run(64);
        x.defines("m !\nk- 3\na 2 m\ns !\nb 5", 5);
        Check.due("forget(1)", x.forget(1), 4);
        x.fails("b", Check.UNKNOWN, 0);
        x.reckons("s", "1/1*0,1");
        Check.due("forget(2)", x.forget(2), 2);
        Check.due("sort(2)", x.sort(2), Check.NONE);
        Check.due("sort(1)", x.sort(1), 2);
        Check.due("DEFINITIONS", x.told(1), 2);
        Check.due("BASES", x.told(2), 1);
        x.reckons("km", "3/1*1");
        Check.due("forget(2)", x.forget(2), 0);
        x.fails("m", Check.UNKNOWN, 0);
        Check.due("DEFINITIONS", x.told(1), 0);
    }

    @Says(in = "Promise 5", words = "The latest n DEFINITIONS go from the book: how many are left.")
    static void p05_forgetNone() {
        Run x = new Run(64);
        Check.due("forget(0) of none", x.forget(0), 0);
        x.defines("m !\na 2", 2);
        x.reckons("3 m", "3/1*1");
        Check.due("forget(0)", x.forget(0), 2);
        x.shows("the RESULT", "3/1*1");
        x.reckons("a", "2/1");
    }

    @Says(in = "Promise 5", words = "The latest n DEFINITIONS go from the book: how many are left.")
    static void p05_forgetAll() {
        Run x = new Run(64);
        x.defines("m !\na 2 m", 2);
        Check.due("forget(2)", x.forget(2), 0);
        x.defines("a !\nm 3 a", 2);
        x.reckons("m", "3/1*1");
        x.forget(2);
        x.defines(FileTests.lines("a% 1", 0, 92) + FileTests.lines("b% !", 0, 8), 100);
        Check.due("forget(100)", x.forget(100), 0);
        Check.due("BASES", x.told(2), 0);
    }

    @Says(in = "Promise 5", words = "The latest n DEFINITIONS go from the book: how many are left.")
    static void p05_whatIsLeftIsReckonedAnew() {
        Run x = new Run(64);
        x.defines("k- 10\nm 1\na 2 km\nb c", 4);
        x.defines("km 7\nc 3", 2);
        x.reckons("a + b", "17/1");
        Check.due("forget(1)", x.forget(1), 5);
        Check.due("faultOf(3)", x.faultOf(3), Check.UNKNOWN);
        x.reckons("a", "14/1");
        Check.due("forget(1)", x.forget(1), 4);
        x.reckons("a", "20/1");
    }

    @Says(in = "Promise 5", words = "The RESULT stays")
    static void p05_theResultStays() {
        Run x = new Run(64);
        x.defines("m !\na 2 m\nb 3 m", 3);
        x.reckons("-7|3 a b", "-14/1*2");
        x.forget(1);
        x.shows("the RESULT", "-14/1*2");
        x.forget(1);
        x.shows("the RESULT", "-14/1*2");
        Check.due("RESULTS", x.told(4), 1);
    }

    @Says(in = "Promise 5", words = "(its POWERS of BASES that went are lost).")
    static void p05_powersOfBasesThatWentAreLost() {
        Run x = new Run(64);
        x.defines("m !\ns !\na 1\nt !", 4);
        x.reckons("5 m^2 s^-3 t^99", "5/1*2,-3,99");
        x.forget(1);
        x.shows("without t", "5/1*2,-3");
        x.forget(1);
        x.shows("a was no BASE", "5/1*2,-3");
        x.forget(1);
        x.shows("without s", "5/1*2");
        x.forget(1);
        x.shows("without m", "5/1");
    }

    @Says(in = "Promise 5", words = "(its POWERS of BASES that went are lost).")
    static void p05_lostPowersDoNotComeBack() {
        Run x = new Run(64);
        x.defines("m !\ns !", 2);
        x.reckons("5 m^2 s^-3", "5/1*2,-3");
        x.forget(1);
        x.defines("s !\nt !", 2);
        x.shows("s is another one", "5/1*2");
        Check.due("alike(0)", x.alike(0), Check.NONE);
        x.forget(3);
        x.defines("u !\nv 2", 2);
        Check.due("alike(0)", x.alike(0), 1);
    }

    @Says(in = "Promise 5", words = "(its POWERS of BASES that went are lost).")
    static void p05_allEightPowersAreLost() {
        Run x = new Run(64);
        x.defines(FileTests.lines("b% !", 0, 8), 8);
        x.reckons("b0 b1^2 b2^3 b3^4 b4^5 b5^6 b6^7 b7^8", "1/1*1,2,3,4,5,6,7,8");
        x.forget(1);
        x.shows("without b7", "1/1*1,2,3,4,5,6,7");
        x.forget(7);
        x.shows("without any", "1/1");
    }

    @Says(in = "Promise 5", words = "NONE: n is below 0,")
    static void p05_noneBelow0() {
        Run x = new Run(64);
        x.defines("m !\na 2", 2);
        for (int n : new int[] {-1, -2, -100, Integer.MIN_VALUE}) {
            Check.due("forget(" + n + ")", x.forget(n), Check.NONE);
        }
        Check.due("DEFINITIONS", x.told(1), 2);
        Check.due("sort(2)", x.sort(2), Check.NONE);
    }

    @Says(in = "Promise 5", words = "or there are fewer;")
    static void p05_noneIfThereAreFewer() {
        Run x = new Run(64);
        Check.due("forget(1) of none", x.forget(1), Check.NONE);
        x.defines("m !\na 2", 2);
        x.reckons("m", "1/1*1");
        for (int n : new int[] {3, 100, 101, Integer.MAX_VALUE}) {
            Check.due("forget(" + n + ")", x.forget(n), Check.NONE);
        }
        Check.due("DEFINITIONS", x.told(1), 2);
        x.shows("the RESULT", "1/1*1");
        Check.due("forget(2)", x.forget(2), 0);
    }

    @Says(in = "Promise 5", words = "or a MEASURE or PREFIX that is left would be reckoned without end.")
    static void p05_noneIfAMeasureWouldBeEndless() {
        Run x = new Run(64);
        x.defines("m !\na 2 as\nb 5\ns !\nas 7", 5);
        x.reckons("s m", "1/1*1,1");
        Check.due("as would be a's", x.forget(1), Check.NONE);
        Check.due("with more of them", x.forget(3), Check.NONE);
        Check.due("DEFINITIONS", x.told(1), 5);
        Check.due("BASES", x.told(2), 2);
        x.shows("the RESULT", "1/1*1,1");
        Check.due("faultOf(1)", x.faultOf(1), 0);
        x.reckons("a s", "14/1*0,1");
        Check.due("a goes too", x.forget(4), 1);
    }

    @Says(in = "Promise 5", words = "or a MEASURE or PREFIX that is left would be reckoned without end.")
    static void p05_noneIfAPrefixWouldBeEndless() {
        Run x = new Run(64);
        x.defines("m 3\nk- 2 km\nkm 5", 3);
        x.reckons("kms", "5/1");
        Check.due("km would be k's", x.forget(1), Check.NONE);
        x.reckons("km", "5/1");
        x.defines("a 1", 1);
        Check.due("forget(2)", x.forget(2), Check.NONE);
        Check.due("forget(1)", x.forget(1), 3);
        Check.due("forget(2)", x.forget(2), 1);
        x.fails("km", Check.UNKNOWN, 0);
    }

    @Says(in = "Promise 5", words = "or a MEASURE or PREFIX that is left would be reckoned without end.")
    static void p05_anUnknownOneIsNotEndless() {
        Run x = new Run(64);
        x.defines("a bb\nbb 3", 2);
        Check.due("forget(1)", x.forget(1), 1);
        Check.due("faultOf(0)", x.faultOf(0), Check.UNKNOWN);
        x.defines("bb 4", 1);
        x.reckons("a", "4/1");
    }
}
