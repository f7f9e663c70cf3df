/** Promise 4: define. */
public final class DefineTests {
    public static void main(String[] args) {
        Sentences.run(DefineTests.class);
    }

    @Says(in = "Promise 4", words = "The TAPE is a FILE: its DEFINITIONS come into the book: how many.")
    static void p04_howManyCame() {
        Run x = new Run(64);
        x.defines("m !", 1);
        x.defines("a 2 m\n\n# so\nk- 1000\nb 3 ka", 3);
        Check.due("DEFINITIONS", x.told(1), 4);
        Check.due("BASES", x.told(2), 1);
        x.defines(" # none", 0);
        Check.due("DEFINITIONS", x.told(1), 4);
        x.reckons("b", "6000/1*1");
    }

    @Says(in = "Promise 4", words = "The TAPE is a FILE: its DEFINITIONS come into the book: how many.")
    static void p04_definitionsMayNeedLaterOnes() {
        Run x = new Run(64);
        x.defines("a 2 kb\nb 3 c\nc !\nk- d^2\nd 10", 5);
        x.reckons("a", "600/1*1");
        x.defines("e f", 1);
        Check.due("faultOf(5)", x.faultOf(5), Check.UNKNOWN);
        x.defines("f 7", 1);
        Check.due("faultOf(5)", x.faultOf(5), 0);
        x.reckons("e", "7/1");
    }

    @Says(in = "Promise 4", words = "The TAPE is a FILE: its DEFINITIONS come into the book: how many.")
    static void p04_aValueWithAFaultComesToo() {
        Run x = new Run(16);
        x.defines("m !\na 1/0\nb 65536\nc zz\nd m + 1\ne (m^99)^2", 6);
        Check.due("fault", x.fault(), 0);
        Check.due("DEFINITIONS", x.told(1), 6);
    }

    @Says(in = "Promise 4", words = "Else -10 less the place of the FAULT that comes first in it: SYNTAX;")
    static void p04_placeOfSyntax() {
        Run x = new Run(64);
        x.refuses("?", Check.SYNTAX, 0);
        x.refuses("m ?", Check.SYNTAX, 2);
        x.refuses("m !\n\n# ok\n f 2 +", Check.SYNTAX, 16);
        x.refuses("m ! ?\nf ?", Check.SYNTAX, 4);
        x.refuses("a 1\n" + "#".repeat(3900) + "\n ?", Check.SYNTAX, 3906);
    }

    @Says(in = "Promise 4", words = "Else -10 less the place of the FAULT that comes first in it: SYNTAX;")
    static void p04_theFaultThatComesFirst() {
        Run x = new Run(64);
        x.defines("m !", 1);
        x.refuses("z 1\nm 3\n?", Check.TWICE, 4);
        x.refuses("z 1\n?\nm 3", Check.SYNTAX, 4);
        x.refuses("z z\nm 3", Check.TWICE, 4);
        x.refuses("z z\n?", Check.SYNTAX, 4);
        x.refuses(FileTests.lines("b% !", 1, 8) + "?", Check.MUCH, 35);
        x.refuses(FileTests.lines("b% !", 1, 8) + "m !", Check.MUCH, 35);
        x.refuses(FileTests.lines("b% !", 1, 7) + "m !\nb9 !", Check.TWICE, 35);
        x.refuses(FileTests.lines("b% !", 1, 7) + "?\nb9 !", Check.SYNTAX, 35);
    }

    @Says(in = "Promise 4", words = "TWICE (at a NAME that is not allowed by 2,")
    static void p04_twice_atTheName() {
        Run x = new Run(64);
        x.defines("m !\nf 2\nk- 3", 3);
        x.refuses("  m !", Check.TWICE, 2);
        x.refuses("g 1\n\tf\t3", Check.TWICE, 5);
        x.refuses("#\n k- 4", Check.TWICE, 3);
        x.refuses("m- 1\nf !", Check.TWICE, 5);
    }

    @Says(in = "Promise 4", words = "be the other one in the book or ahead in the FILE);")
    static void p04_twice_inTheBook() {
        Run x = new Run(64);
        x.defines("m !", 1);
        x.defines("f 2", 1);
        x.refuses("m 3", Check.TWICE, 0);
        x.refuses("f !", Check.TWICE, 0);
    }

    @Says(in = "Promise 4", words = "be the other one in the book or ahead in the FILE);")
    static void p04_twice_aheadInTheFile() {
        Run x = new Run(64);
        x.refuses("z 1\nz 2", Check.TWICE, 4);
        x.refuses("z !\ny 1\n z !", Check.TWICE, 9);
        x.refuses("z 1\nz- 2\nz- 3", Check.TWICE, 9);
        x.refuses("z- 1\nz 2\nz !", Check.TWICE, 9);
        x.defines("z 1\nz- 2", 2);
    }

    @Says(in = "Promise 4", words = "MUCH (at the NAME of a DEFINITION or BASE too many;")
    static void p04_much_ofDefinitions() {
        Run x = new Run(64);
        String all = FileTests.lines("a% 1", 0, 100);
        x.refuses(all + " b 1\nc 1", Check.MUCH, all.length() + 1);
        Check.due("nothing came", x.told(1), 0);
        x.defines(all, 100);
        x.refuses("\n b 1", Check.MUCH, 2);
        x.refuses("b- 1", Check.MUCH, 0);
        x.refuses("b !", Check.MUCH, 0);
    }

    @Says(in = "Promise 4", words = "MUCH (at the NAME of a DEFINITION or BASE too many;")
    static void p04_much_ofBases() {
        Run x = new Run(64);
        String all = FileTests.lines("a% !", 0, 8);
        x.refuses(all + "b 1\n c !", Check.MUCH, all.length() + 5);
        Check.due("nothing came", x.told(2), 0);
        x.defines(all + "b 1\nc- 1", 10);
        x.refuses("d 1\n e !", Check.MUCH, 5);
        Check.due("DEFINITIONS", x.told(1), 10);
    }

    @Says(in = "Promise 4", words = "where both TWICE and MUCH are so: TWICE).")
    static void p04_twiceGoesAheadOfMuch() {
        Run bases = new Run(64);
        bases.defines(FileTests.lines("a% !", 0, 8), 8);
        bases.refuses("a0 !", Check.TWICE, 0);
        bases.refuses("a7 !", Check.TWICE, 0);
        Run all = new Run(64);
        all.defines(FileTests.lines("a% 1", 0, 99) + "k- 1", 100);
        all.refuses("a98 1", Check.TWICE, 0);
        all.refuses("a0 !", Check.TWICE, 0);
        all.refuses("k- 1", Check.TWICE, 0);
        all.refuses("k 1", Check.MUCH, 0);
        all.refuses("a0- 1", Check.MUCH, 0);
    }

    @Says(in = "Promise 4", words = "A line's SYNTAX goes ahead of TWICE and MUCH of that line.")
    static void p04_syntaxGoesAheadOfTwice() {
        Run x = new Run(64);
        x.defines("m !", 1);
        x.refuses("m 3 +", Check.SYNTAX, 5);
        x.refuses("m", Check.SYNTAX, 1);
        x.refuses("a 1\na ! !", Check.SYNTAX, 8);
        x.refuses("a- 1\na- (", Check.SYNTAX, 9);
    }

    @Says(in = "Promise 4", words = "A line's SYNTAX goes ahead of TWICE and MUCH of that line.")
    static void p04_syntaxGoesAheadOfMuch() {
        Run x = new Run(64);
        x.defines(FileTests.lines("a% !", 0, 8), 8);
        x.refuses("b ! !", Check.SYNTAX, 4);
        x.defines(FileTests.lines("a% 1", 8, 92), 92);
        x.refuses("b 1 ?", Check.SYNTAX, 4);
        x.refuses("b", Check.SYNTAX, 1);
        x.refuses("a8 ?", Check.SYNTAX, 3);
    }

    @Says(in = "Promise 4", words = "Then, if in the book with all of them a BASE, MEASURE or PREFIX would be"
        + " reckoned without end: ENDLESS,")
    static void p04_endless_measures() {
        Run x = new Run(64);
        x.refuses("a a", Check.ENDLESS, 0);
        x.refuses("a 2 b\nb 3 a", Check.ENDLESS, 0);
        x.refuses("a 0 (1 - b)^0\nb c\nc d\nd 1|2 + a", Check.ENDLESS, 0);
        x.refuses("a as", Check.ENDLESS, 0);
        x.refuses("as a\na as", Check.ENDLESS, 0);
        Check.due("nothing came", x.told(1), 0);
        x.defines("a 2 b\nb 3", 2);
    }

    @Says(in = "Promise 4", words = "Then, if in the book with all of them a BASE, MEASURE or PREFIX would be"
        + " reckoned without end: ENDLESS,")
    static void p04_endless_prefixes() {
        Run x = new Run(64);
        x.refuses("m !\nk- 1000 km/m", Check.ENDLESS, 1);
        x.refuses("m !\nk- jm\nj- km", Check.ENDLESS, 1);
        x.refuses("m !\nk- a\na km", Check.ENDLESS, 1);
        x.refuses("k- 2\na ka", Check.ENDLESS, 1);
        x.refuses("k- 2\na kas", Check.ENDLESS, 1);
        x.defines("m !\nk- k1\nk1 km\nkm 5", 4);
    }

    @Says(in = "Promise 4", words = "Then, if in the book with all of them a BASE, MEASURE or PREFIX would be"
        + " reckoned without end: ENDLESS,")
    static void p04_endless_withThoseOfTheBook() {
        Run x = new Run(64);
        x.defines("u 1\na 2 b", 2);
        x.refuses("b a", Check.ENDLESS, 1);
        x.refuses("b 1\nb a", Check.TWICE, 4);
        x.defines("b 3 c", 1);
        x.refuses("c 5 a", Check.ENDLESS, 1);
        x.defines("c 5", 1);
        x.reckons("a", "30/1");
    }

    @Says(in = "Promise 4", words = "Then, if in the book with all of them a BASE, MEASURE or PREFIX would be"
        + " reckoned without end: ENDLESS,")
    static void p04_endless_aNewOneTakesTheMeaningOfAName() {
        Run x = new Run(64);
        x.defines("k- 2\nm !\na 3 km\nbs as\nb 7", 5);
        x.reckons("a", "6/1*1");
        x.refuses("km a", Check.ENDLESS, 2);
        x.refuses("as bs", Check.ENDLESS, 3);
        x.reckons("a + bs", "12/1*1");
        x.defines("km 5 m", 1);
        x.reckons("a", "15/1*1");
    }

    @Says(in = "Promise 4", words = "Then, if in the book with all of them a BASE, MEASURE or PREFIX would be"
        + " reckoned without end: ENDLESS,")
    static void p04_endless_longChain() {
        Run x = new Run(64);
        String chain = "";
        for (int i = 0; i < 99; i++) {
            chain += "n" + i + " 1+(n" + (i + 1) + ")\n";
        }
        x.refuses(chain + "n99 n0", Check.ENDLESS, 0);
        x.refuses(chain + "n99 n99", Check.ENDLESS, 0);
        x.defines(chain + "n99 7", 100);
        x.reckons("n0", "106/1");
    }

    @Says(in = "Promise 4", words = "its place being the least number that such a DEFINITION would have.")
    static void p04_endless_theLeastNumber() {
        Run x = new Run(64);
        x.refuses("u 1\nv !\na 2 b\nb 3 c\nc b", Check.ENDLESS, 2);
        x.refuses("c 1\nd a\na as", Check.ENDLESS, 1);
        x.refuses("c 1\na as\nd a", Check.ENDLESS, 1);
        x.refuses("c 1\nd e\ne 2\nf g\ng f", Check.ENDLESS, 3);
        x.defines("u 1\nw zz\nv 2", 3);
        x.refuses("a 1\nb b", Check.ENDLESS, 4);
        x.refuses("a 1\nzz b\nb zz", Check.ENDLESS, 1);
    }

    @Says(in = "Promise 4", words = "its place being the least number that such a DEFINITION would have.")
    static void p04_endless_theNumber99() {
        Run x = new Run(64);
        x.defines(FileTests.lines("a% 1", 0, 99), 99);
        x.refuses("b b", Check.ENDLESS, 99);
        x.defines("b a98", 1);
    }

    @Says(in = "Terms", words = "What an act with a FAULT would change stays as it was, but the TAPE.")
    static void p04_aFaultLeavesTheBookAsItWas() {
        Run x = new Run(64);
        x.defines("m !\na 2 zz\nk- 3", 3);
        x.reckons("7 m", "7/1*1");
        String[] files = {"zz 1\ns !\n?", "zz 1\ns !\nm 2", "zz 1\ns !\nq q", FileTests.lines("b% !", 0, 8)};
        int[] faults = {Check.SYNTAX, Check.TWICE, Check.ENDLESS, Check.MUCH};
        int[] places = {9, 9, 5, 35};
        for (int i = 0; i < files.length; i++) {
            x.refuses(files[i], faults[i], places[i]);
            Check.due("DEFINITIONS", x.told(1), 3);
            Check.due("BASES", x.told(2), 1);
            Check.due("faultOf(1)", x.faultOf(1), Check.UNKNOWN);
            Check.due("sort(3)", x.sort(3), Check.NONE);
            Check.due("TAPE", x.told(0), 0);
            x.fails("s", Check.UNKNOWN, 0);
            x.shows("the RESULT", "7/1*1");
        }
        x.defines("s !\nzz 5", 2);
        x.reckons("a s^2", "10/1*0,2");
    }
}
