/** What the tests share: the numbers of the FAULTS, and counting wrong answers. */
final class Check {
    static final int NONE = -1;
    static final int SYNTAX = 1;
    static final int TWICE = 2;
    static final int MUCH = 3;
    static final int ENDLESS = 4;
    static final int UNKNOWN = 5;
    static final int ZERO = 6;
    static final int MIXED = 7;
    static final int POWERS = 8;
    static final int LARGE = 9;

    private static int wrong;
    private static String heading = "";

    private Check() {
    }

    /** Tells of which test the wrong answers that come now are. */
    static void under(String newHeading) {
        heading = newHeading;
    }

    static void wrong(String what) {
        wrong++;
        System.out.println(heading + what.replace("\n", "\\n"));
    }

    static void due(String call, long got, long want) {
        if (got != want) {
            wrong(call + " answered " + got + ", due is " + want);
        }
    }

    static void holds(String what, boolean holds) {
        if (!holds) {
            wrong(what + ": this does not hold");
        }
    }

    /** Four bytes as one number, the highest first; behind the row's end there are blanks. */
    static int four(byte[] bytes, int at) {
        int number = 0;
        for (int i = at; i < at + 4; i++) {
            number = number << 8 | (i < bytes.length ? bytes[i] & 255 : ' ');
        }
        return number;
    }

    static void end() {
        System.out.println(wrong == 0 ? "all answers are as due" : wrong + " answers are not as due");
        if (wrong != 0) {
            System.exit(1);
        }
    }
}
