import java.math.BigInteger;

/** Promises 1 to 3: a new object, feed and cut; and how the acts use the TAPE up. */
public final class TapeTests {
    private static final int BLANK = 0x20202020;

    public static void main(String[] args) {
        Sentences.run(TapeTests.class);
    }

    private static int blanks(Run x) {
        return x.feed(BLANK, BLANK, BLANK, BLANK, BLANK);
    }

    private static void fillTo(Run x, int size) {
        for (int at = 0; at < size; at += 20) {
            Check.due("feed from " + at + " on", blanks(x), at + 20);
        }
    }

    @Says(in = "Promise 1", words = "An empty book;")
    static void p01_emptyBook() {
        Run x = new Run(64);
        Check.due("DEFINITIONS", x.told(1), 0);
        Check.due("BASES", x.told(2), 0);
        Check.due("sort(0)", x.sort(0), Check.NONE);
        Check.due("faultOf(0)", x.faultOf(0), Check.NONE);
        Check.due("name(0, 0)", x.name(0, 0), Check.NONE);
        Check.due("alike(0)", x.alike(0), Check.NONE);
        Check.due("forget(1)", x.forget(1), Check.NONE);
        Check.due("forget(0)", x.forget(0), 0);
        x.fails("m", Check.UNKNOWN, 0);
    }

    @Says(in = "Promise 1", words = "An empty book;")
    static void p01_emptyBook_nothingElseIsThereEither() {
        Run x = new Run(64);
        Check.due("bytes on the TAPE", x.told(0), 0);
        Check.due("RESULTS", x.told(4), 0);
        Check.due("fault", x.fault(), 0);
        Check.due("reckon of an empty TAPE", x.reckon(), -10);
    }

    @Says(in = "Promise 1", words = "BITS is this, 16 at least and 512 at most")
    static void p01_bitsWithinTheBounds() {
        for (int bits : new int[] {16, 17, 100, 511, 512}) {
            Check.due("BITS of " + bits, new Run(bits).told(3), bits);
        }
    }

    @Says(in = "Promise 1", words = "16 at least")
    static void p01_bits16AtLeast() {
        for (int bits : new int[] {15, 16}) {
            Run x = new Run(bits);
            Check.due("BITS of " + bits, x.told(3), 16);
            x.reckons("65535", "65535/1");
            x.fails("65536", Check.LARGE, 0);
        }
        new Run(17).reckons("65536", "65536/1");
    }

    @Says(in = "Promise 1", words = "512 at most")
    static void p01_bits512AtMost() {
        String most = BigInteger.ONE.shiftLeft(512).subtract(BigInteger.ONE).toString();
        for (int bits : new int[] {512, 513, 1000}) {
            Run x = new Run(bits);
            Check.due("BITS of " + bits, x.told(3), 512);
            x.defines("h (2^64)^4", 1);
            x.reckons("(h-1)(h+1)", most + "/1");
            x.fails("h h", Check.LARGE, 2);
        }
        Run less = new Run(511);
        less.defines("h (2^64)^4", 1);
        less.fails("(h-1)(h+1)", Check.LARGE, 5);
    }

    @Says(in = "Promise 1", words = "(of another number the nearest of these).")
    static void p01_bitsOfAnotherNumber() {
        for (int bits : new int[] {15, 1, 0, -1, -16, -512, Integer.MIN_VALUE}) {
            Check.due("BITS of " + bits, new Run(bits).told(3), 16);
        }
        for (int bits : new int[] {513, 528, 65536 + 16, Integer.MAX_VALUE}) {
            Check.due("BITS of " + bits, new Run(bits).told(3), 512);
        }
    }

    @Says(in = "Promise 2", words = "Twenty bytes come behind the TAPE, each number's highest first:")
    static void p02_twentyBytes_highestFirst() {
        Run x = new Run(512);
        x.feed(0x31323334, 0x35363738, 0x39303132, 0x33343536, 0x37383931);
        Check.due("reckon", x.reckon(), 1);
        x.shows("the digits that came", "12345678901234567891/1");
    }

    @Says(in = "Promise 2", words = "come behind the TAPE")
    static void p02_behindTheTape() {
        Run x = new Run(512);
        x.feed(0x31323334, 0x35363738, 0x39303132, 0x33343536, 0x37383930);
        x.feed(0x38373635, 0x34333231, 0x30393837, 0x36353433, 0x32313131);
        x.cut(39);
        x.feed(0x2B312020, BLANK, BLANK, BLANK, BLANK);
        Check.due("reckon", x.reckon(), 1);
        x.shows("two feeds, a byte less, and +1", "123456789012345678908765432109876543212/1");
    }

    @Says(in = "Promise 2", words = "Twenty bytes come behind the TAPE, each number's highest first:")
    static void p02_bytesAbove127() {
        Run x = new Run(64);
        Check.due("feed", x.feed(0x31FF2020, BLANK, BLANK, BLANK, BLANK), 20);
        Check.due("byte 255 is at place 1", x.reckon(), -11);
        Check.due("feed", x.feed(0x80000000, -1, -1, -1, -1), 20);
        Check.due("byte 128 is at place 0", x.reckon(), -10);
        Check.due("feed", x.feed(0x31203280, BLANK, BLANK, BLANK, BLANK), 20);
        Check.due("byte 128 is at place 3", x.reckon(), -13);
    }

    @Says(in = "Promise 2", words = "how many it has.")
    static void p02_howManyItHas() {
        Run x = new Run(64);
        Check.due("first feed", blanks(x), 20);
        Check.due("second feed", blanks(x), 40);
        x.cut(7);
        Check.due("feed behind 7", blanks(x), 27);
        Check.due("told(0)", x.told(0), 27);
        x.cut(0);
        Check.due("feed behind none", blanks(x), 20);
        x.reckon();
        Check.due("feed behind a used up TAPE", blanks(x), 20);
    }

    @Says(in = "Promise 2", words = "NONE: there would be more than 4000.")
    static void p02_4000isNotTooMany() {
        Run x = new Run(64);
        fillTo(x, 3980);
        Check.due("feed to 4000", blanks(x), 4000);
        Check.due("told(0)", x.told(0), 4000);
        x.cut(3979);
        Check.due("feed to 3999", blanks(x), 3999);
    }

    @Says(in = "Promise 2", words = "NONE: there would be more than 4000.")
    static void p02_4001isTooMany() {
        Run x = new Run(64);
        fillTo(x, 4000);
        x.cut(3981);
        Check.due("feed to 4001", blanks(x), Check.NONE);
        Check.due("told(0)", x.told(0), 3981);
        x.cut(3980);
        Check.due("feed to 4000", blanks(x), 4000);
        Check.due("feed to 4020", blanks(x), Check.NONE);
        Check.due("told(0)", x.told(0), 4000);
    }

    @Says(in = "Promise 2", words = "NONE: there would be more than 4000.")
    static void p02_refusedBytesDoNotCome() {
        Run x = new Run(64);
        fillTo(x, 3980);
        x.cut(3960);
        Check.due("feed", x.feed(0x37202020, BLANK, BLANK, BLANK, BLANK), 3980);
        Check.due("feed", x.feed(BLANK, BLANK, BLANK, BLANK, 0x20202033), 4000);
        Check.due("refused feed", x.feed(0x2B2B2B2B, 0x2B2B2B2B, 0x2B2B2B2B, 0x2B2B2B2B, 0x2B2B2B2B), Check.NONE);
        Check.due("reckon of 4000 bytes", x.reckon(), 1);
        x.shows("7 and 3 at the TAPE's end", "21/1");
        Check.due("feed on the used up TAPE", blanks(x), 20);
    }

    @Says(in = "Promise 2", words = "NONE: there would be more than 4000.")
    static void p02_placesUpTo4000() {
        Run x = new Run(64);
        fillTo(x, 4000);
        Check.due("the end of 4000 blanks", x.reckon(), -4010);
    }

    @Says(in = "Promise 3", words = "The TAPE's first n bytes stay:")
    static void p03_firstBytesStay() {
        Run x = new Run(64);
        x.feed(0x31323334, 0x35363738, 0x39303132, 0x33343536, 0x37383930);
        x.cut(5);
        Check.due("told(0)", x.told(0), 5);
        Check.due("reckon", x.reckon(), 1);
        x.shows("the first five", "12345/1");
    }

    @Says(in = "Promise 3", words = "The TAPE's first n bytes stay:")
    static void p03_cutToNothing() {
        Run x = new Run(64);
        x.feed(0x31323334, BLANK, BLANK, BLANK, BLANK);
        Check.due("cut(0)", x.cut(0), 20);
        Check.due("told(0)", x.told(0), 0);
        Check.due("cut(0) of nothing", x.cut(0), 0);
        Check.due("reckon", x.reckon(), -10);
    }

    @Says(in = "Promise 3", words = "how many went.")
    static void p03_howManyWent() {
        Run x = new Run(64);
        blanks(x);
        Check.due("cut(20)", x.cut(20), 0);
        Check.due("cut(19)", x.cut(19), 1);
        Check.due("cut(8)", x.cut(8), 11);
        Check.due("cut(1)", x.cut(1), 7);
        Check.due("cut(0)", x.cut(0), 1);
    }

    @Says(in = "Promise 3", words = "NONE: n is below 0,")
    static void p03_noneBelow0() {
        Run x = new Run(64);
        Check.due("cut(-1) of nothing", x.cut(-1), Check.NONE);
        blanks(x);
        Check.due("cut(-1)", x.cut(-1), Check.NONE);
        Check.due("cut(-20)", x.cut(-20), Check.NONE);
        Check.due("cut(MIN)", x.cut(Integer.MIN_VALUE), Check.NONE);
        Check.due("told(0)", x.told(0), 20);
    }

    @Says(in = "Promise 3", words = "or it has fewer.")
    static void p03_noneIfItHasFewer() {
        Run x = new Run(64);
        Check.due("cut(1) of nothing", x.cut(1), Check.NONE);
        blanks(x);
        Check.due("cut(21)", x.cut(21), Check.NONE);
        Check.due("cut(MAX)", x.cut(Integer.MAX_VALUE), Check.NONE);
        Check.due("told(0)", x.told(0), 20);
        x.cut(8);
        Check.due("cut(9) of 8", x.cut(9), Check.NONE);
        Check.due("told(0)", x.told(0), 8);
        x.reckon();
        Check.due("cut(1) of a used up TAPE", x.cut(1), Check.NONE);
    }

    /** Each act upon each of these texts; some of them it takes, the others have a FAULT for it. */
    private static void usesUp(String... texts) {
        for (String text : texts) {
            for (int act = 0; act < 3; act++) {
                Run x = new Run(16);
                x.put(text);
                int answer = act == 0 ? x.define() : act == 1 ? x.reckon() : x.turn();
                Check.due("TAPE after act " + act + " on \"" + text + "\" (" + answer + ")", x.told(0), 0);
                Check.due("feed behind it", blanks(x), 20);
            }
        }
    }

    @Says(in = "What it is", words = "TEXTS are the bytes on the TAPE; an act that reads it uses all of it up,")
    static void p04_p06_p07_anActUsesTheTapeUp() {
        usesUp("m !", "1", "1 > 2", "# nothing", "a 1\nb 2");
    }

    @Says(in = "What it is", words = "whatever comes of it.")
    static void p04_p06_p07_aFaultUsesTheTapeUp() {
        usesUp("", "?", "1 ? 2", "m !\nm !", "a a", "zz", "1/0", "65536", "1 > 0", "zz > 1", "1 > 1|3 > 2",
            "b !\nc !\nd !\ne !\nf !\ng !\nh !\ni !\nj !");
    }

    @Says(in = "What it is", words = "An object is used for at most 512 calls after it has been made;")
    static void p06_the512thCallIsAnsweredToo() {
        Run x = new Run(64);
        x.defines("m !", 1);
        while (x.calls() < Run.MOST_CALLS - 2) {
            x.put("3 m");
            if (x.calls() < Run.MOST_CALLS - 2) {
                Check.due("reckon after " + x.calls() + " calls", x.reckon(), 1);
            }
        }
        while (x.calls() < Run.MOST_CALLS - 1) {
            x.told(0);
        }
        Check.due("the 512th call", x.power(0), 1);
    }

    /** As many bytes as can be come into the book, in as many steps of reckoning as they can tell. */
    @Says(in = "What it is", words = "An object is used for at most 512 calls after it has been made;")
    static void p04_allThatCanBeFedIsKept() {
        Run x = new Run(64);
        x.defines("a 1\nb 1" + " 1a".repeat(1300) + " 1", 2);
        x.defines("c 1" + " 1a".repeat(1310) + " 1", 1);
        x.put("d 1" + " 1b".repeat(320) + "+1b".repeat(320) + " 1c+5");
        Check.due("define", x.define(), 1);
        Check.due("its FAULT", x.faultOf(3), 0);
        x.put("d > 2");
        Check.due("turn", x.turn(), 1);
        Check.due("power(0)", x.power(0), 0);
        Check.due("326 divided by 2", x.digit(0, 0) + 10 * x.digit(0, 1) + 100 * x.digit(0, 2), 163);
        Check.holds("nearly all calls are used: " + x.calls(), x.calls() > 500);
    }
}
