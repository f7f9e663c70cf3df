/** Promises 15 to 19: what is told of the book. */
public final class BookTests {
    public static void main(String[] args) {
        Sentences.run(BookTests.class);
    }

    private static void alikeAsDue(Run x, String text, int... want) {
        x.put(text);
        Check.due("reckon \"" + text + "\"", x.reckon(), 1);
        for (int i = 0; i <= want.length; i++) {
            Check.due("alike(" + i + ") to " + text, x.alike(i), i < want.length ? want[i] : Check.NONE);
        }
    }

    @Says(in = "Promise 15", words = "The i-th (from 0, by numbers) of those BASES and MEASURES")
    static void p15_alike_byNumbers() {
        Run x = new Run(64);
        x.defines("d 5 m\nm !\ns !\na 3 m\nc m m\nb c/m", 6);
        alikeAsDue(x, "7 m", 0, 1, 3, 5);
        alikeAsDue(x, "-m", 0, 1, 3, 5);
        alikeAsDue(x, "0 m", 0, 1, 3, 5);
        alikeAsDue(x, "m^2", 4);
        alikeAsDue(x, "s", 2);
    }

    @Says(in = "Promise 15", words = "The i-th (from 0, by numbers) of those BASES and MEASURES")
    static void p15_alike_noPrefixes() {
        Run x = new Run(64);
        x.defines("m !\nk- 2 m\nj- 1000\nn 5\na m", 5);
        alikeAsDue(x, "m", 0, 4);
        alikeAsDue(x, "1", 3);
    }

    @Says(in = "Promise 15", words = "whose VALUE has no FAULT")
    static void p15_alike_noFault() {
        Run x = new Run(16);
        x.defines("m !\na zz m\nb 65535 m 2\nc m + s\nd 3 m\ns !\ne (m^99)^2\nf 1/0", 8);
        alikeAsDue(x, "m", 0, 4);
        alikeAsDue(x, "1");
        x.defines("zz 5", 1);
        Check.due("alike(0) to 1", x.alike(0), 8);
        alikeAsDue(x, "m", 0, 1, 4);
        x.forget(1);
        Check.due("alike(1) to m", x.alike(1), 4);
    }

    @Says(in = "Promise 15", words = "and the same POWERS as the RESULT: its number.")
    static void p15_alike_theSamePowers() {
        Run x = new Run(64);
        x.defines("m !\ns !\na m s\nb s m\nc m/s\nd 1/m\ne 7\nf m s^2", 8);
        alikeAsDue(x, "m s", 2, 3);
        alikeAsDue(x, "m/s", 4);
        alikeAsDue(x, "m^-1", 5);
        alikeAsDue(x, "1", 6);
        alikeAsDue(x, "m", 0);
        alikeAsDue(x, "m^2 s");
        alikeAsDue(x, "f", 7);
        x.put("m s > a");
        Check.due("turn", x.turn(), 1);
        Check.due("alike(0) to a turn's RESULT", x.alike(0), 6);
    }

    @Says(in = "Promise 15", words = "and the same POWERS as the RESULT: its number.")
    static void p15_alike_toTheResultAtFirstAndAfterForget() {
        Run x = new Run(64);
        x.defines("m !\na 3\ns !", 3);
        Check.due("alike(0) at first", x.alike(0), 1);
        alikeAsDue(x, "s", 2);
        x.forget(1);
        Check.due("alike(0) without s", x.alike(0), 1);
        Check.due("alike(1) without s", x.alike(1), Check.NONE);
        x.put("zz");
        x.reckon();
        Check.due("alike(0) after a FAULT", x.alike(0), 1);
    }

    @Says(in = "Promise 15", words = "NONE: there is none such.")
    static void p15_alike_noneSuch() {
        Run x = new Run(64);
        Check.due("alike(0) of an empty book", x.alike(0), Check.NONE);
        x.defines("m !\na 3 m", 2);
        Check.due("alike(0) to 0", x.alike(0), Check.NONE);
        alikeAsDue(x, "m", 0, 1);
        for (int i : new int[] {-1, 2, 3, 99, 100, Integer.MIN_VALUE, Integer.MAX_VALUE}) {
            Check.due("alike(" + i + ")", x.alike(i), Check.NONE);
        }
    }

    @Says(in = "Promise 15", words = "The i-th (from 0, by numbers) of those BASES and MEASURES")
    static void p15_alike_100OfThem() {
        Run x = new Run(64);
        x.defines("m !\n" + FileTests.lines("a% m", 1, 99), 100);
        x.put("m");
        x.reckon();
        for (int i = 0; i < 100; i++) {
            Check.due("alike(" + i + ")", x.alike(i), i);
        }
        Check.due("alike(100)", x.alike(100), Check.NONE);
    }

    @Says(in = "Promise 16", words = "Of DEFINITION k: 0 BASE, 1 MEASURE, 2 PREFIX.")
    static void p16_sort() {
        Run x = new Run(64);
        x.defines("m !\na 2 m\nk- 3\nb 1/0\nj- zz\nn!", 6);
        int[] sorts = {0, 1, 2, 1, 2, 0};
        for (int k = 0; k < sorts.length; k++) {
            Check.due("sort(" + k + ")", x.sort(k), sorts[k]);
        }
    }

    @Says(in = "Promise 16", words = "NONE: there is none such.")
    static void p16_noneSuch() {
        Run x = new Run(64);
        Check.due("sort(0) of an empty book", x.sort(0), Check.NONE);
        x.defines("m !\na 2 m\nk- 3", 3);
        for (int k : new int[] {-1, 3, 99, 100, Integer.MIN_VALUE, Integer.MAX_VALUE}) {
            Check.due("sort(" + k + ")", x.sort(k), Check.NONE);
        }
        x.forget(1);
        Check.due("sort(2) when it went", x.sort(2), Check.NONE);
        x.refuses("c !\nd !\nc !", Check.TWICE, 8);
        Check.due("sort(2) when it did not come", x.sort(2), Check.NONE);
    }

    @Says(in = "Promise 16", words = "NONE: there is none such.")
    static void p16_p17_p18_theHundredth() {
        Run x = new Run(64);
        x.defines(FileTests.lines("a% 1", 0, 99) + "Z- zz", 100);
        Check.due("sort(99)", x.sort(99), 2);
        Check.due("faultOf(99)", x.faultOf(99), Check.UNKNOWN);
        Check.due("name(99, 0)", x.name(99, 0), 'Z');
        Check.due("sort(100)", x.sort(100), Check.NONE);
        Check.due("faultOf(100)", x.faultOf(100), Check.NONE);
        Check.due("name(100, 0)", x.name(100, 0), Check.NONE);
    }

    @Says(in = "Promise 17", words = "The FAULT of DEFINITION k's VALUE, 0 without.")
    static void p17_faultOf() {
        Run x = new Run(16);
        x.defines("m !\na 1000 m\nk- 1000\nz 1/0\nbig 2^16\nu nn\nv zs\nw m + 1\np (m^99)^2\nq- 1|0\nr qm\nt kbig", 12);
        int[] faults = {0, 0, 0, Check.ZERO, Check.LARGE, Check.UNKNOWN, Check.ZERO, Check.MIXED, Check.POWERS,
            Check.ZERO, Check.ZERO, Check.LARGE};
        for (int k = 0; k < faults.length; k++) {
            Check.due("faultOf(" + k + ")", x.faultOf(k), faults[k]);
        }
    }

    @Says(in = "Promise 17", words = "The FAULT of DEFINITION k's VALUE, 0 without.")
    static void p17_faultOf_asTheBookIsNow() {
        Run x = new Run(16);
        x.defines("a b\nc- a", 2);
        Check.due("faultOf(0)", x.faultOf(0), Check.UNKNOWN);
        Check.due("faultOf(1)", x.faultOf(1), Check.UNKNOWN);
        x.defines("b 3", 1);
        Check.due("faultOf(0)", x.faultOf(0), 0);
        Check.due("faultOf(1)", x.faultOf(1), 0);
        x.forget(1);
        Check.due("faultOf(0)", x.faultOf(0), Check.UNKNOWN);
        x.defines("b 1|0", 1);
        Check.due("faultOf(1)", x.faultOf(1), Check.ZERO);
    }

    @Says(in = "Promise 17", words = "NONE: there is none such.")
    static void p17_noneSuch() {
        Run x = new Run(64);
        Check.due("faultOf(0) of an empty book", x.faultOf(0), Check.NONE);
        x.defines("m !\na zz", 2);
        for (int k : new int[] {-1, 2, 99, 100, Integer.MIN_VALUE, Integer.MAX_VALUE}) {
            Check.due("faultOf(" + k + ")", x.faultOf(k), Check.NONE);
        }
        x.forget(1);
        Check.due("faultOf(1) when it went", x.faultOf(1), Check.NONE);
    }

    @Says(in = "Promise 18", words = "Byte i (from 0) of the NAME of DEFINITION k;")
    static void p18_name() {
        Run x = new Run(64);
        x.defines("# so\n  Km_9\t1000 m\nm!\nk-1\n", 3);
        x.defines("abcdefghijklmnopqrstuvwx 2\n_Z09- 3", 2);
        String[] names = {"Km_9", "m", "k", "abcdefghijklmnopqrstuvwx", "_Z09"};
        for (int k = 0; k < names.length; k++) {
            for (int i = 0; i < names[k].length(); i++) {
                Check.due("name(" + k + ", " + i + ")", x.name(k, i), names[k].charAt(i));
            }
            Check.due("behind NAME " + k, x.name(k, names[k].length()), Check.NONE);
        }
    }

    @Says(in = "Promise 18", words = "Byte i (from 0) of the NAME of DEFINITION k;")
    static void p18_nameStaysWhenOtherTextsCome() {
        Run x = new Run(64);
        x.defines("first 1\nsecond 2", 2);
        x.reckons("first + second + 1e3 + 99999999", "100001002/1");
        x.refuses("third 3\nfourth 4 ?", Check.SYNTAX, 17);
        x.forget(1);
        x.refuses("other 3\nfirst 4", Check.TWICE, 8);
        Check.holds("NAME 0 is first", x.nameOf(0).equals("first"));
        x.defines("zero 0", 1);
        Check.holds("NAME 1 is zero", x.nameOf(1).equals("zero"));
        Check.holds("NAME 0 is first", x.nameOf(0).equals("first"));
    }

    @Says(in = "Promise 18", words = "NONE: there is none such.")
    static void p18_noneSuch() {
        Run x = new Run(64);
        Check.due("name(0, 0) of an empty book", x.name(0, 0), Check.NONE);
        x.defines("foot 2\nk- 3", 2);
        for (int i : new int[] {-1, 4, 5, 24, Integer.MIN_VALUE, Integer.MAX_VALUE}) {
            Check.due("name(0, " + i + ")", x.name(0, i), Check.NONE);
        }
        Check.due("name(1, 1)", x.name(1, 1), Check.NONE);
        for (int k : new int[] {-1, 2, 99, 100, Integer.MIN_VALUE, Integer.MAX_VALUE}) {
            Check.due("name(" + k + ", 0)", x.name(k, 0), Check.NONE);
        }
        x.forget(1);
        Check.due("name(1, 0) when it went", x.name(1, 0), Check.NONE);
    }

    @Says(in = "Promise 19", words = "How many: 0 bytes on the TAPE,")
    static void p19_bytesOnTheTape() {
        Run x = new Run(64);
        Check.due("told(0) at first", x.told(0), 0);
        x.feed(0, 0, 0, 0, 0);
        Check.due("told(0)", x.told(0), 20);
        x.cut(3);
        Check.due("told(0)", x.told(0), 3);
        x.forget(0);
        Check.due("told(0)", x.told(0), 3);
        x.turn();
        Check.due("told(0)", x.told(0), 0);
    }

    @Says(in = "Promise 19", words = "1 DEFINITIONS, 2 BASES,")
    static void p19_definitionsAndBases() {
        Run x = new Run(64);
        x.defines("m !\nk- 2\na 3\ns !", 4);
        Check.due("told(1)", x.told(1), 4);
        Check.due("told(2)", x.told(2), 2);
        x.forget(1);
        Check.due("told(1)", x.told(1), 3);
        Check.due("told(2)", x.told(2), 1);
        x.refuses("t !\nm !", Check.TWICE, 4);
        Check.due("told(1)", x.told(1), 3);
        Check.due("told(2)", x.told(2), 1);
        x.refuses("t !\nu u", Check.ENDLESS, 4);
        Check.due("told(2)", x.told(2), 1);
    }

    @Says(in = "Promise 19", words = "3 the BITS,")
    static void p19_bits() {
        Check.due("told(3)", new Run(77).told(3), 77);
        Check.due("told(3)", new Run(15).told(3), 16);
        Check.due("told(3)", new Run(513).told(3), 512);
    }

    @Says(in = "Promise 19", words = "4 reckon() and turn() that gave a RESULT.")
    static void p19_results() {
        Run x = new Run(64);
        Check.due("told(4) at first", x.told(4), 0);
        x.defines("m !", 1);
        Check.due("told(4) after define", x.told(4), 0);
        x.reckons("0", "0/1");
        Check.due("told(4)", x.told(4), 1);
        x.reckons("0", "0/1");
        Check.due("told(4)", x.told(4), 2);
        x.turns("1 > 2", "1/2");
        Check.due("told(4)", x.told(4), 3);
        x.fails("1/0", Check.ZERO, 1);
        x.fails("?", Check.SYNTAX, 0);
        x.turnFails("1 > m", Check.MIXED, 2);
        x.turnFails("1", Check.SYNTAX, 1);
        x.forget(1);
        Check.due("told(4)", x.told(4), 3);
    }

    @Says(in = "Promise 19", words = "NONE: another what.")
    static void p19_anotherWhat() {
        Run x = new Run(64);
        for (int what : new int[] {-1, 5, 6, Integer.MIN_VALUE, Integer.MAX_VALUE}) {
            Check.due("told(" + what + ")", x.told(what), Check.NONE);
        }
    }
}
