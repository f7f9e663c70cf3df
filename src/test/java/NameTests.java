import java.math.BigInteger;

/** What a NAME stands for, as promises 4, 6 and 7 take it. */
public final class NameTests {
    public static void main(String[] args) {
        Sentences.run(NameTests.class);
    }

    @Says(in = "Terms", words = "Of a BASE's NAME: 1, its own POWER being 1.")
    static void p06_valueOfABase() {
        Run x = new Run(64);
        x.defines(FileTests.lines("b% !", 0, 8), 8);
        x.reckons("b0", "1/1*1");
        x.reckons("b3", "1/1*0,0,0,1");
        x.reckons("b7", "1/1*0,0,0,0,0,0,0,1");
    }

    @Says(in = "Terms", words = "Of a BASE's NAME: 1, its own POWER being 1.")
    static void p06_valueOfABase_whereAnotherOneStood() {
        Run x = new Run(64);
        x.defines("m !\na -1|2 m^3\nz zz", 3);
        for (int times = 0; times < 3; times++) {
            Check.due("forget(2)", x.forget(2), 1);
            x.defines("b !\nc !", 2);
            x.reckons("b", "1/1*0,1");
            x.reckons("c", "1/1*0,0,1");
            Check.due("faultOf(2)", x.faultOf(2), 0);
            Check.due("forget(2)", x.forget(2), 1);
            x.defines("a -1|2 m^3\nz zz", 2);
        }
    }

    @Says(in = "Terms", words = "Of a MEASURE'S or a PREFIX'S: that of its EXPR.")
    static void p06_valueOfAMeasureOrPrefix() {
        Run x = new Run(64);
        x.defines("m !\na -3|6 m^2\nk- 2 m/7\nb 1 + 1\nj- 1 + 1", 5);
        x.reckons("a", "-1/2*2");
        x.reckons("km", "2/7*2");
        x.reckons("3 b", "6/1");
        x.reckons("b^2", "4/1");
        x.reckons("3 jb^2", "48/1");
    }

    @Says(in = "Terms", words = "What a NAME STANDS FOR: the BASE or MEASURE of this NAME;")
    static void p06_name_itself() {
        Run x = new Run(64);
        x.defines("m 2\nms 3\nk- 5\nkm 7\ns 11", 5);
        x.reckons("m", "2/1");
        x.reckons("ms", "3/1");
        x.reckons("km", "7/1");
        x.reckons("s", "11/1");
    }

    @Says(in = "Terms", words = "What a NAME STANDS FOR: the BASE or MEASURE of this NAME;")
    static void p06_name_aPrefixIsNone() {
        Run x = new Run(64);
        x.defines("k- 5\nm 2", 2);
        x.fails("k", Check.UNKNOWN, 0);
        x.fails("ks", Check.UNKNOWN, 0);
        x.fails("kk", Check.UNKNOWN, 0);
        x.defines("k 3", 1);
        x.reckons("k", "3/1");
    }

    @Says(in = "Terms", words = "if there is none, and the NAME ends in s (115) and has more than one byte,"
        + " the BASE or MEASURE whose NAME is all ahead of this s;")
    static void p06_name_withS() {
        Run x = new Run(64);
        x.defines("m !\nas 3\nfoot 5\nS 7", 4);
        x.reckons("ms", "1/1*1");
        x.reckons("as", "3/1");
        x.reckons("ass", "3/1");
        x.reckons("foots", "5/1");
        x.reckons("Ss", "7/1");
        x.fails("mss", Check.UNKNOWN, 0);
        x.fails("mS", Check.UNKNOWN, 0);
        x.fails("a", Check.UNKNOWN, 0);
        x.fails("footes", Check.UNKNOWN, 0);
    }

    @Says(in = "Terms", words = "if there is none, and the NAME ends in s (115) and has more than one byte,"
        + " the BASE or MEASURE whose NAME is all ahead of this s;")
    static void p06_name_sAlone() {
        Run x = new Run(64);
        x.defines("m 1", 1);
        x.fails("s", Check.UNKNOWN, 0);
        x.defines("s 3", 1);
        x.reckons("s", "3/1");
        x.reckons("ss", "3/1");
        x.fails("sss", Check.UNKNOWN, 0);
    }

    @Says(in = "Terms", words = "if there is none, and the NAME ends in s (115) and has more than one byte,"
        + " the BASE or MEASURE whose NAME is all ahead of this s;")
    static void p06_name_theSGoesAheadOfPrefixes() {
        Run x = new Run(64);
        x.defines("m- 2\ns 3\nm 5\nks 7\nk- 11", 5);
        x.reckons("ms", "5/1");
        x.reckons("ks", "7/1");
        x.reckons("kss", "7/1");
        x.reckons("mss", "6/1");
    }

    @Says(in = "Terms", words = "if there is none, of the PREFIXES with whose NAME it begins, being longer,"
        + " such that what is behind stands for a BASE or MEASURE by one of these two ways,"
        + " the longest, and that BASE or MEASURE: the product of both;")
    static void p06_name_prefix_theProduct() {
        Run x = new Run(64);
        x.defines("m !\nk- 10 m\na 3", 3);
        x.reckons("km", "10/1*2");
        x.reckons("ka", "30/1*1");
        x.reckons("2 ka^2", "1800/1*2");
        x.reckons("1/ka", "1/30*-1");
    }

    @Says(in = "Terms", words = "such that what is behind stands for a BASE or MEASURE by one of these two ways,")
    static void p06_name_prefix_whatIsBehind() {
        Run x = new Run(64);
        x.defines("m 2\nms 3\nk- 10\nj- 100\ns 7", 5);
        x.reckons("km", "20/1");
        x.reckons("kms", "30/1");
        x.reckons("kmss", "30/1");
        x.reckons("ks", "70/1");
        x.reckons("kss", "70/1");
        x.fails("ksss", Check.UNKNOWN, 0);
        x.fails("jkm", Check.UNKNOWN, 0);
        x.fails("kkm", Check.UNKNOWN, 0);
        x.fails("kj", Check.UNKNOWN, 0);
        x.fails("mk", Check.UNKNOWN, 0);
        x.fails("mkm", Check.UNKNOWN, 0);
        x.fails("kM", Check.UNKNOWN, 0);
        x.fails("Km", Check.UNKNOWN, 0);
    }

    @Says(in = "Terms", words = "of the PREFIXES with whose NAME it begins, being longer,")
    static void p06_name_prefix_beingLonger() {
        Run x = new Run(64);
        x.defines("a 2\nka- 10\nk- 100\nks- 1000", 4);
        x.reckons("ka", "200/1");
        x.reckons("kaa", "20/1");
        x.fails("ks", Check.UNKNOWN, 0);
        x.fails("k", Check.UNKNOWN, 0);
        x.reckons("ksa", "2000/1");
        x.reckons("kas", "200/1");
        x.reckons("kaas", "20/1");
    }

    @Says(in = "Terms", words = "the longest, and that BASE or MEASURE: the product of both;")
    static void p06_name_prefix_theLongest() {
        Run x = new Run(64);
        x.defines("k- 10\nkim- 30\nki- 20\nm 2\nim 3\no 5\nmo 7", 7);
        x.reckons("kim", "40/1");
        x.reckons("kimo", "150/1");
        x.reckons("kimm", "60/1");
        x.reckons("kimmo", "210/1");
        x.reckons("kio", "100/1");
        x.reckons("kmo", "70/1");
        x.reckons("kims", "40/1");
    }

    @Says(in = "Terms", words = "the longest, and that BASE or MEASURE: the product of both;")
    static void p06_name_prefix_theLongestThatHasSomethingBehind() {
        Run x = new Run(64);
        x.defines("kim- 30\nk- 10\nimo 3\nz 1/0\nki- zz", 5);
        x.reckons("kimo", "30/1");
        x.reckons("kimos", "30/1");
        x.fails("kiz", Check.UNKNOWN, 0);
        x.fails("kimz", Check.ZERO, 0);
        x.defines("o 1/0", 1);
        x.fails("1 kimo", Check.ZERO, 2);
    }

    @Says(in = "Terms", words = "else it is UNKNOWN.")
    static void p06_name_elseUnknown() {
        Run x = new Run(64);
        x.fails("m", Check.UNKNOWN, 0);
        x.defines("m !\nk- 2", 2);
        x.fails("mm", Check.UNKNOWN, 0);
        x.fails("M", Check.UNKNOWN, 0);
        x.fails("1 + mk", Check.UNKNOWN, 4);
        x.fails("m1", Check.UNKNOWN, 0);
        x.fails("k1", Check.UNKNOWN, 0);
        x.fails("_", Check.UNKNOWN, 0);
    }

    @Says(in = "Terms", words = "A NAME with a FAULT in what it stands for has that FAULT, at the NAME")
    static void p06_name_hasTheFaultOfWhatItStandsFor() {
        Run x = new Run(16);
        x.defines("m !\na (1/0)\nb zz\nc m + 1\nd (m^99)^2\ne 2^16\nf 2 + a\ng f^2", 8);
        String[] names = {"a", "b", "c", "d", "e", "f", "g"};
        int[] faults = {Check.ZERO, Check.UNKNOWN, Check.MIXED, Check.POWERS, Check.LARGE, Check.ZERO, Check.ZERO};
        for (int i = 0; i < names.length; i++) {
            x.fails("3 " + names[i], faults[i], 2);
            x.fails("3 + (" + names[i] + "s)", faults[i], 5);
            Check.due("faultOf " + names[i], x.faultOf(i + 1), faults[i]);
        }
    }

    @Says(in = "Terms", words = "(of a product the PREFIX'S, ahead of the other one;")
    static void p06_name_thePrefixsFaultGoesAhead() {
        Run x = new Run(16);
        x.defines("m !\na 1/0\nk- zz\nj- 2\nl- 65536", 5);
        x.fails("1 km", Check.UNKNOWN, 2);
        x.fails("1 ka", Check.UNKNOWN, 2);
        x.fails("1 ja", Check.ZERO, 2);
        x.fails("1 la", Check.LARGE, 2);
        x.fails("1 lm", Check.LARGE, 2);
    }

    @Says(in = "Terms", words = "then that of the product, at the NAME).")
    static void p06_name_theProductsFault() {
        Run x = new Run(64);
        x.defines("m !\nk- 2^60\na 32 m\np- m^99\nq- m^-99\nb m^-1", 6);
        x.fails("1 ka", Check.LARGE, 2);
        x.fails("1 + (kas)", Check.LARGE, 5);
        x.fails("1 pm", Check.POWERS, 2);
        x.fails("1 pa", Check.POWERS, 2);
        x.fails("1 qb", Check.POWERS, 2);
        x.reckons("km", BigInteger.TWO.pow(60) + "/1*1");
        x.reckons("pb", "1/1*98");
        x.reckons("qm", "1/1*-98");
    }

    @Says(in = "Terms", words = "A NAME is ENDLESS if what it stands for is reckoned without end.")
    static void p04_endless_ofWhatANameStandsFor() {
        Run x = new Run(64);
        x.defines("m !\nk- 2\na 3", 3);
        x.refuses("b b", Check.ENDLESS, 3);
        x.refuses("b bs", Check.ENDLESS, 3);
        x.refuses("b kb", Check.ENDLESS, 3);
        x.refuses("b kbs", Check.ENDLESS, 3);
        x.refuses("j- jm", Check.ENDLESS, 3);
        x.refuses("b 0 b", Check.ENDLESS, 3);
        x.refuses("b 2 (3 - b)^0", Check.ENDLESS, 3);
        x.defines("b- bk\nbk 5", 2);
    }

    @Says(in = "Terms", words = "A NAME is ENDLESS if what it stands for is reckoned without end.")
    static void p04_endless_aFaultAheadIsAnEnd() {
        Run x = new Run(64);
        x.defines("m !\na 2 zz + a\nd (1/0) d\nl 2^64 l\nc (m + 1) c\np m^99 m p", 6);
        int[] faults = {0, Check.UNKNOWN, Check.ZERO, Check.LARGE, Check.MIXED, Check.POWERS};
        for (int k = 0; k < faults.length; k++) {
            Check.due("faultOf " + k, x.faultOf(k), faults[k]);
        }
        x.refuses("zz 7", Check.ENDLESS, 1);
        Check.due("faultOf(1)", x.faultOf(1), Check.UNKNOWN);
        x.defines("zz 1|0", 1);
        Check.due("faultOf(1)", x.faultOf(1), Check.ZERO);
    }

    @Says(in = "Terms", words = "A NAME is ENDLESS if what it stands for is reckoned without end.")
    static void p04_endless_aPrefixsFaultIsAnEnd() {
        Run x = new Run(64);
        x.defines("b- nn\nq br\nr q", 3);
        for (int k = 0; k < 3; k++) {
            Check.due("faultOf " + k, x.faultOf(k), Check.UNKNOWN);
        }
        x.refuses("nn 1", Check.ENDLESS, 1);
        x.defines("nn 1/0", 1);
        Check.due("faultOf(2)", x.faultOf(2), Check.ZERO);
    }
}
