/** What a FILE is and what may stand in the book, as promise 4 reads it. */
public final class FileTests {
    public static void main(String[] args) {
        Sentences.run(FileTests.class);
    }

    /** So many lines, each with this text, its % being the line's number from first on. */
    static String lines(String text, int first, int count) {
        StringBuilder lines = new StringBuilder();
        for (int i = first; i < first + count; i++) {
            lines.append(text.replace("%", String.valueOf(i))).append("\n");
        }
        return lines.toString();
    }

    @Says(in = "Terms", words = "A FILE has lines, each ended by byte 10 or the TAPE's end.")
    static void p04_lines() {
        new Run(64).defines("a 1\nb 2\n", 2);
        new Run(64).defines("a 1\nb 2", 2);
        new Run(64).defines("a 1\r\nb 2\r\n", 2);
        new Run(64).defines("\na 1\n\n\nb 2\n\n", 2);
    }

    @Says(in = "Terms", words = "A FILE has lines, each ended by byte 10 or the TAPE's end.")
    static void p04_lines_noOtherByteEndsOne() {
        Run x = new Run(64);
        x.defines("b 3\na 1\rb 2", 2);
        x.reckons("a", "6/1");
        x.refuses("c 1\rd !", Check.SYNTAX, 6);
        x.refuses("c 1\u000bd 2", Check.SYNTAX, 3);
        x.refuses("c 1\u000cd 2", Check.SYNTAX, 3);
        x.refuses("c 1\u0000", Check.SYNTAX, 3);
    }

    @Says(in = "Terms", words = "A FILE has lines, each ended by byte 10 or the TAPE's end.")
    static void p04_lines_anExprDoesNotGoOnInTheNext() {
        Run x = new Run(64);
        x.refuses("a 1 +\n2", Check.SYNTAX, 5);
        x.refuses("a\n1", Check.SYNTAX, 1);
        x.refuses("a-\n1", Check.SYNTAX, 2);
        x.refuses("a 1\n+ 2", Check.SYNTAX, 4);
    }

    @Says(in = "Terms", words = "A FILE has lines, each ended by byte 10 or the TAPE's end.")
    static void p04_lines_4000OfThem() {
        Run x = new Run(64);
        x.put("\n".repeat(3997) + "a 1");
        Check.due("define of 3998 lines", x.define(), 1);
        x.put("\n".repeat(4000));
        Check.due("define of 4000 empty lines", x.define(), 0);
    }

    @Says(in = "Terms", words = "In a line all from byte 35 on counts for nothing.")
    static void p04_comments() {
        Run x = new Run(64);
        x.defines("a 3#2\nb 5 # ( ? ! \u00ff # -\n#c 1\n  # d !\ne !# f", 3);
        x.reckons("a", "3/1");
        x.reckons("b", "5/1");
        x.fails("c", Check.UNKNOWN, 0);
        Check.due("sort(2)", x.sort(2), 0);
        x.refuses("g #1", Check.SYNTAX, 2);
        x.refuses("# h\n?", Check.SYNTAX, 4);
    }

    @Says(in = "Terms", words = "A line of BLANKS alone, or of none, tells nothing;")
    static void p04_linesThatTellNothing() {
        Run x = new Run(64);
        x.defines("", 0);
        x.defines("\n", 0);
        x.defines(" \t\r", 0);
        x.defines("\n \t\r\n#\n # m !\n", 0);
        Check.due("DEFINITIONS", x.told(1), 0);
        x.defines("\n\n \na 1\n \n", 1);
        x.defines("   #", 0);
        Check.due("DEFINITIONS", x.told(1), 1);
    }

    @Says(in = "Terms", words = "others are a DEFINITION:")
    static void p04_otherLinesAreDefinitions() {
        Run x = new Run(64);
        x.refuses("2 x", Check.SYNTAX, 0);
        x.refuses("- x", Check.SYNTAX, 0);
        x.refuses("!", Check.SYNTAX, 0);
        x.refuses("(a) 1", Check.SYNTAX, 0);
        x.refuses("a 1\n ?", Check.SYNTAX, 5);
        x.refuses("a 1\n \u0000", Check.SYNTAX, 5);
        x.refuses("a = 1", Check.SYNTAX, 2);
        x.refuses("a > 1", Check.SYNTAX, 2);
        x.refuses("a 1 > 2", Check.SYNTAX, 4);
        x.refuses("a 1)", Check.SYNTAX, 3);
        Check.due("DEFINITIONS", x.told(1), 0);
    }

    @Says(in = "Terms", words = "NAME ! (a BASE),")
    static void p04_base() {
        Run x = new Run(64);
        x.defines("a !\nb!\n c\t! ", 3);
        for (int k = 0; k < 3; k++) {
            Check.due("sort " + k, x.sort(k), 0);
        }
        x.refuses("d ! !", Check.SYNTAX, 4);
        x.refuses("d ! 2", Check.SYNTAX, 4);
        x.refuses("d !2", Check.SYNTAX, 3);
        x.refuses("d 2 !", Check.SYNTAX, 4);
        x.refuses("d e !", Check.SYNTAX, 4);
    }

    @Says(in = "Terms", words = "NAME with - right behind it and an EXPR (a PREFIX),")
    static void p04_prefix() {
        Run x = new Run(64);
        x.defines("m !\na-2\nb- 3\nc--5\nd- -7\ne-(1+1)", 6);
        for (int k = 1; k < 6; k++) {
            Check.due("sort " + k, x.sort(k), 2);
        }
        x.reckons("am", "2/1*1");
        x.reckons("bm", "3/1*1");
        x.reckons("cm", "-5/1*1");
        x.reckons("dm", "-7/1*1");
        x.reckons("em", "2/1*1");
        x.refuses("f-", Check.SYNTAX, 2);
        x.refuses("f-!", Check.SYNTAX, 2);
        x.refuses("f---2", Check.SYNTAX, 3);
        x.refuses("f- - -2", Check.SYNTAX, 5);
        x.refuses("f-+2", Check.SYNTAX, 2);
    }

    @Says(in = "Terms", words = "NAME EXPR (a MEASURE).")
    static void p04_measure() {
        Run x = new Run(64);
        x.defines("m !\na 2\nb -3\nc - 5\nd(7)\ne\t-\tm 11", 6);
        for (int k = 1; k < 6; k++) {
            Check.due("sort " + k, x.sort(k), 1);
        }
        x.reckons("a", "2/1");
        x.reckons("b", "-3/1");
        x.reckons("c", "-5/1");
        x.reckons("d", "7/1");
        x.reckons("e", "-11/1*1");
        x.refuses("f", Check.SYNTAX, 1);
        x.refuses("f2", Check.SYNTAX, 2);
        x.refuses("f -", Check.SYNTAX, 3);
        x.refuses("f -!", Check.SYNTAX, 3);
        x.refuses("f - -2", Check.SYNTAX, 4);
        x.refuses("f+2", Check.SYNTAX, 1);
        x.refuses("f.5", Check.SYNTAX, 1);
    }

    @Says(in = "Terms", words = "THE BOOK has at most 100 DEFINITIONS,")
    static void p04_book_100Definitions() {
        Run x = new Run(64);
        x.defines(lines("a% 1", 0, 99), 99);
        x.refuses("b 1\nc 1", Check.MUCH, 4);
        x.defines("b 1", 1);
        Check.due("DEFINITIONS", x.told(1), 100);
        x.refuses("c 1", Check.MUCH, 0);
        x.reckons("a98 + b", "2/1");
        x.defines("# none", 0);
        Check.due("forget(1)", x.forget(1), 99);
        x.defines("c 1", 1);
    }

    @Says(in = "Terms", words = "THE BOOK has at most 100 DEFINITIONS,")
    static void p04_book_100DefinitionsOfAllSortsInOneFile() {
        String all = lines("a% !", 0, 8) + lines("b%- 2", 0, 46) + lines("c% 3", 0, 46);
        Run x = new Run(64);
        x.refuses(all + "d !", Check.MUCH, all.length());
        x.refuses(all + "d- 1", Check.MUCH, all.length());
        x.defines(all, 100);
        x.reckons("b45c45 a7", "6/1*0,0,0,0,0,0,0,1");
    }

    @Says(in = "Terms", words = "numbered from 0 in the order in which they came,")
    static void p04_book_numbersOfDefinitions() {
        Run x = new Run(64);
        x.defines("m 1\nk- 2\nc !", 3);
        x.defines("d 3\na- 4", 2);
        String[] names = {"m", "k", "c", "d", "a"};
        int[] sorts = {1, 2, 0, 1, 2};
        for (int k = 0; k < names.length; k++) {
            Check.due("name " + k, x.name(k, 0), names[k].charAt(0));
            Check.due("sort " + k, x.sort(k), sorts[k]);
        }
        x.forget(2);
        x.defines("z !", 1);
        Check.due("name 3", x.name(3, 0), 'z');
    }

    @Says(in = "Terms", words = "of which at most 8 are BASES,")
    static void p04_book_8Bases() {
        Run x = new Run(64);
        x.defines(lines("b% !", 0, 7), 7);
        x.refuses("b7 !\nb8 !", Check.MUCH, 5);
        x.defines("b7 !", 1);
        Check.due("BASES", x.told(2), 8);
        x.refuses("b8 !", Check.MUCH, 0);
        x.defines("b8 1\nb8- 1", 2);
        x.reckons("b0 b7", "1/1*1,0,0,0,0,0,0,1");
        Check.due("forget(3)", x.forget(3), 7);
        x.defines("b9 !", 1);
    }

    @Says(in = "Terms", words = "numbered from 0 likewise;")
    static void p04_book_numbersOfBases() {
        Run x = new Run(64);
        x.defines("a 1\nm !\nk- 2\ns !\nb 3", 5);
        x.defines("t !", 1);
        x.reckons("m", "1/1*1");
        x.reckons("s^2", "1/1*0,2");
        x.reckons("t^3", "1/1*0,0,3");
        x.forget(3);
        Check.due("BASES", x.told(2), 1);
        x.defines("u !", 1);
        x.reckons("u^4 m", "1/1*1,4");
    }

    @Says(in = "Terms", words = "a PREFIX may have the NAME of a BASE or MEASURE,")
    static void p04_book_aPrefixMayHaveTheNameOfAnother() {
        Run x = new Run(64);
        x.defines("m !\na 3\nk- 5", 3);
        x.defines("m- 7\na- 11\nk 13", 3);
        x.defines("q- 2\nq !", 2);
        x.reckons("mm", "7/1*1");
        x.reckons("aa", "33/1");
        x.reckons("kk", "65/1");
        x.reckons("m", "1/1*1");
        x.reckons("qq", "2/1*0,1");
    }

    @Says(in = "Terms", words = "else no two have the same NAME.")
    static void p04_book_noTwoElse() {
        Run x = new Run(64);
        x.defines("m !\na 3\nk- 5", 3);
        x.refuses("m !", Check.TWICE, 0);
        x.refuses("m 1", Check.TWICE, 0);
        x.refuses("a !", Check.TWICE, 0);
        x.refuses("a 3", Check.TWICE, 0);
        x.refuses("k- 5", Check.TWICE, 0);
        x.defines("k 1\nm- 1\na- 1", 3);
        x.refuses("k 1", Check.TWICE, 0);
        x.refuses("k- 1", Check.TWICE, 0);
    }

    @Says(in = "Terms", words = "else no two have the same NAME.")
    static void p04_book_aNameThatWentIsFree() {
        Run x = new Run(64);
        x.defines("m !\na 3", 2);
        x.forget(1);
        x.defines("a !", 1);
        x.refuses("b 1\na 2\nb 3", Check.TWICE, 4);
        x.defines("b 1", 1);
    }

    @Says(in = "Terms", words = "else no two have the same NAME.")
    static void p04_book_namesThatBeginAlikeAreTwo() {
        Run x = new Run(64);
        x.defines("m 1\nmm 2\nms 3\nm1 4\n_m 5", 5);
        x.reckons("m + mm + ms + m1 + _m", "15/1");
    }

    @Says(in = "Terms", words = "Letters differ by their case.")
    static void p04_p06_book_case() {
        Run x = new Run(64);
        x.defines("m 3\nM 5\nk- 7\nK- 11", 4);
        x.reckons("m", "3/1");
        x.reckons("M", "5/1");
        x.reckons("kM", "35/1");
        x.reckons("Km", "33/1");
        x.fails("mS", Check.UNKNOWN, 0);
        Check.due("name(1, 0)", x.name(1, 0), 'M');
    }
}
