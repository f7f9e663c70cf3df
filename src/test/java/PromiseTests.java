import java.math.BigInteger;

/** For each promise of the document ordinary inputs, the edges it names, and wrong inputs. */
public final class PromiseTests {
    private static final int NONE = MeasureBook.NONE;
    private static final String SI =
        "m ! # length\ns !\nkg !\r\n\n  # nothing\nkilo- 1000\nk- 1000\nmilli- 1|1000\nm- 1e-3\n"
        + "inch 0.0254 m\nfoot 12 inch\nmin 60 s\nhour 60 min\nN kg m / s^2";

    public static void main(String[] args) {
        newObject();
        tape();
        tapeIsUsedUp();
        defineFiles();
        defineSyntax();
        defineTwiceAndMuch();
        defineEndless();
        forgetting();
        syntaxOfTexts();
        tokens();
        arithmetic();
        actFaults();
        names();
        turning();
        resultStays();
        digitsAndPoint();
        endsOfFractions();
        alikes();
        lists();
        Check.end();
    }

    private static void newObject() {
        int[][] bits = {
            {-5, 16}, {0, 16}, {15, 16}, {16, 16}, {17, 17}, {511, 511}, {512, 512}, {513, 512},
            {Integer.MAX_VALUE, 512}, {Integer.MIN_VALUE, 16}
        };
        for (int[] pair : bits) {
            Check.due("BITS of " + pair[0], new MeasureBook(pair[0]).told(3), pair[1]);
        }
        MeasureBook x = new MeasureBook(64);
        Check.shows(x, "a new object", "0/1");
        int[] told = {0, 0, 0, 64, 0};
        for (int what = 0; what < told.length; what++) {
            Check.due("new told " + what, x.told(what), told[what]);
        }
        Check.due("told(-1)", x.told(-1), NONE);
        Check.due("told(5)", x.told(5), NONE);
        Check.due("new fault", x.fault(), 0);
        Check.due("new sign", x.sign(), 0);
        Check.due("new alike", x.alike(0), NONE);
        Check.due("NONE", NONE, -1);
        Check.reckons(new MeasureBook(15), "65535", "65535/1");
        Check.fails(new MeasureBook(15), "65536", Check.LARGE, 0);
        String most = BigInteger.ONE.shiftLeft(512).subtract(BigInteger.ONE).toString();
        MeasureBook large = new MeasureBook(600);
        Check.defines(large, "h (2^64)^4", 1);
        Check.reckons(large, "(h-1)(h+1)", most + "/1");
        Check.fails(large, "h h", Check.LARGE, 2);
    }

    private static void tape() {
        MeasureBook x = new MeasureBook(64);
        Check.due("feed", x.feed(0x31323334, 0x35202020, 0x20202020, 0x20202020, 0x2B2B2B2B), 20);
        Check.due("cut", x.cut(8), 12);
        Check.due("cut of as many", x.cut(8), 0);
        Check.due("cut of more", x.cut(9), NONE);
        Check.due("cut below 0", x.cut(-1), NONE);
        Check.due("told(0)", x.told(0), 8);
        Check.due("reckon", x.reckon(), 1);
        Check.shows(x, "bytes, the highest first", "12345/1");
        for (int i = 1; i <= 200; i++) {
            Check.due("feed " + i, x.feed(0x20202020, 0x20202020, 0x20202020, 0x20202020, 0x20202020), 20 * i);
        }
        Check.due("feed beyond 4000", x.feed(0, 0, 0, 0, 0), NONE);
        Check.due("told(0)", x.told(0), 4000);
        Check.due("cut", x.cut(3981), 19);
        Check.due("feed to 4001", x.feed(0, 0, 0, 0, 0), NONE);
        Check.due("cut", x.cut(3980), 1);
        Check.due("feed to 4000", x.feed(0x20202020, 0x20202020, 0x20202020, 0x20202020, 0x20202020), 4000);
        Check.due("a long blank text", x.reckon(), -4010);
        Check.due("cut to 0", x.cut(0), 0);
        Check.fails(x, "\u00e9", Check.SYNTAX, 0);
        Check.fails(x, "1\u00ff", Check.SYNTAX, 1);
        Check.fails(x, "1 \u0000", Check.SYNTAX, 2);
    }

    private static void tapeIsUsedUp() {
        MeasureBook x = new MeasureBook(64);
        String[] texts = {"m !", "1", "1 > 2", "?"};
        for (String text : texts) {
            for (int act = 0; act < 3; act++) {
                Check.feed(x, text);
                int answer = act == 0 ? x.define() : act == 1 ? x.reckon() : x.turn();
                Check.due("TAPE after act " + act + " on " + text + " (" + answer + ")", x.told(0), 0);
            }
        }
        Check.fails(x, "", Check.SYNTAX, 0);
        Check.turnFails(x, "", Check.SYNTAX, 0);
        Check.defines(x, "", 0);
    }

    private static void defineFiles() {
        MeasureBook x = new MeasureBook(128);
        Check.defines(x, SI, 12);
        Check.due("DEFINITIONS", x.told(1), 12);
        Check.due("BASES", x.told(2), 3);
        Check.reckons(x, "5 N", "5/1*1,-2,1");
        Check.reckons(x, "kilom + 3 km", "4000/1*1");
        Check.reckons(x, "1 foot", "381/1250*1");
        Check.defines(x, "\n \t\r\n#\n # m !\n", 0);
        Check.defines(x, "A !#!\nB- 2#m\n_9 2 # 3\nC -2\nD--2\nE- -2\nF!", 7);
        int[] sorts = {0, 2, 1, 1, 2, 2, 0};
        for (int i = 0; i < sorts.length; i++) {
            Check.due("sort " + i, x.sort(12 + i), sorts[i]);
        }
        Check.reckons(x, "C", "-2/1");
        Check.reckons(x, "Dm", "-2/1*1");
        Check.reckons(x, "Em", "-2/1*1");
        Check.reckons(x, "BF/F", "2/1");
        Check.due("BASES", x.told(2), 5);
    }

    private static void defineSyntax() {
        MeasureBook x = new MeasureBook(128);
        String name24 = "abcdefghijklmnopqrstuvwx";
        Check.refuses(x, "m", Check.SYNTAX, 1);
        Check.refuses(x, "m  # !", Check.SYNTAX, 3);
        Check.refuses(x, "m  \n!", Check.SYNTAX, 3);
        Check.refuses(x, "m 2 +\nx !", Check.SYNTAX, 5);
        Check.refuses(x, "m ! !", Check.SYNTAX, 4);
        Check.refuses(x, "m ! 2", Check.SYNTAX, 4);
        Check.refuses(x, "x-", Check.SYNTAX, 2);
        Check.refuses(x, "x -", Check.SYNTAX, 3);
        Check.refuses(x, "x-!", Check.SYNTAX, 2);
        Check.refuses(x, "x---2", Check.SYNTAX, 3);
        Check.refuses(x, "x > 2", Check.SYNTAX, 2);
        Check.refuses(x, "x 2 > 3", Check.SYNTAX, 4);
        Check.refuses(x, "2 x", Check.SYNTAX, 0);
        Check.refuses(x, "- x", Check.SYNTAX, 0);
        Check.refuses(x, "a 1\n ?", Check.SYNTAX, 5);
        Check.refuses(x, "x (1\n)", Check.SYNTAX, 4);
        Check.refuses(x, "x 1)", Check.SYNTAX, 3);
        Check.refuses(x, "x 1 \u000b", Check.SYNTAX, 4);
        Check.refuses(x, name24 + "y 1", Check.SYNTAX, 0);
        Check.refuses(x, "x " + name24 + "y", Check.SYNTAX, 2);
        Check.due("nothing came", x.told(1), 0);
        Check.defines(x, name24 + " 1", 1);
        Check.due("byte 23", x.name(0, 23), 'x');
        Check.due("byte 24", x.name(0, 24), NONE);
    }

    private static void defineTwiceAndMuch() {
        MeasureBook x = new MeasureBook(128);
        Check.defines(x, "m !\nf 2\nk- 3", 3);
        Check.refuses(x, "  m !", Check.TWICE, 2);
        Check.refuses(x, "m 3", Check.TWICE, 0);
        Check.refuses(x, "f !", Check.TWICE, 0);
        Check.refuses(x, "k-4", Check.TWICE, 0);
        Check.refuses(x, "z 1\nz 2", Check.TWICE, 4);
        Check.refuses(x, "z 1\nz-2\nz-3", Check.TWICE, 8);
        Check.refuses(x, "m 3 +", Check.SYNTAX, 5);
        Check.refuses(x, "z 1\nm 3\n?", Check.TWICE, 4);
        Check.refuses(x, "z 1\n?\nm 3", Check.SYNTAX, 4);
        Check.due("nothing came", x.told(1), 3);
        Check.defines(x, "m-2\nf-3\nk 4\nM 5", 4);
        StringBuilder bases = new StringBuilder();
        for (int i = 0; i < 7; i++) {
            bases.append("b").append(i).append(" !\n");
        }
        Check.refuses(x, bases + "b7 !", Check.MUCH, 35);
        Check.refuses(x, bases + "m !", Check.TWICE, 35);
        Check.refuses(x, bases + "b7 ! !", Check.SYNTAX, 40);
        Check.defines(x, bases + "b7 9", 8);
        Check.due("BASES", x.told(2), 8);
        Check.refuses(x, "b8 !", Check.MUCH, 0);
        StringBuilder many = new StringBuilder();
        for (int i = 15; i < 100; i++) {
            many.append("a").append(i).append(" 1\n");
        }
        Check.refuses(x, many + " zz 1", Check.MUCH, 6 * 85 + 1);
        Check.refuses(x, many + "a15 1", Check.TWICE, 6 * 85);
        Check.defines(x, many.toString(), 85);
        Check.due("DEFINITIONS", x.told(1), 100);
        Check.refuses(x, "zz 1", Check.MUCH, 0);
        Check.refuses(x, "zz-1", Check.MUCH, 0);
        Check.refuses(x, "a15 1", Check.TWICE, 0);
        Check.refuses(x, "zz", Check.SYNTAX, 2);
        Check.defines(x, "# full", 0);
        Check.reckons(x, "a99", "1/1");
    }

    private static void defineEndless() {
        MeasureBook x = new MeasureBook(64);
        Check.refuses(x, "a a", Check.ENDLESS, 0);
        Check.refuses(x, "u 1\na 2 b\nb 3 c\nc b", Check.ENDLESS, 1);
        Check.refuses(x, "c 1\nb a\na as", Check.ENDLESS, 1);
        Check.refuses(x, "m !\nk- 1000 km/m", Check.ENDLESS, 1);
        Check.defines(x, "m !\na 2 zz + a\nd (1/0) d\nl 2^64 l", 4);
        Check.due("UNKNOWN ends it", x.faultOf(1), Check.UNKNOWN);
        Check.due("ZERO ends it", x.faultOf(2), Check.ZERO);
        Check.due("LARGE ends it", x.faultOf(3), Check.LARGE);
        Check.refuses(x, "q 1\nzz 7", Check.ENDLESS, 1);
        Check.due("faults are as before", x.faultOf(1), Check.UNKNOWN);
        Check.due("nothing came", x.told(1), 4);
        Check.refuses(x, "zz m", Check.ENDLESS, 1);
        Check.defines(x, "zz 1|0\nb- 2 nn\nbz bm bz\nc (m + 1) c", 4);
        Check.due("the ZERO of a NAME ends it", x.faultOf(1), Check.ZERO);
        Check.due("the FAULT of a PREFIX ends it", x.faultOf(6), Check.UNKNOWN);
        Check.due("MIXED ends it", x.faultOf(7), Check.MIXED);
        Check.refuses(x, "nn 3", Check.ENDLESS, 6);
        MeasureBook y = new MeasureBook(64);
        Check.defines(y, "b- nn\nq br\nr q", 3);
        Check.due("what is behind a PREFIX with a FAULT is not reckoned", y.faultOf(1), Check.UNKNOWN);
        Check.due("nor is it here", y.faultOf(2), Check.UNKNOWN);
        Check.refuses(y, "nn 1", Check.ENDLESS, 1);
        StringBuilder chain = new StringBuilder();
        for (int i = 0; i < 92; i++) {
            chain.append("n").append(i).append(" (1+(1+n").append(i + 1).append("))\n");
        }
        Check.refuses(x, chain.toString().replace("n92", "n9"), Check.ENDLESS, 8);
        Check.defines(x, chain.toString().replace("n92", "m/m"), 92);
        Check.reckons(x, "n0", "185/1");
    }

    private static void forgetting() {
        MeasureBook x = new MeasureBook(64);
        Check.defines(x, "m !\ns !\na 2 m\nb 3 s", 4);
        Check.reckons(x, "6 m^2/s^3", "6/1*2,-3");
        Check.due("forget(-1)", x.forget(-1), NONE);
        Check.due("forget(5)", x.forget(5), NONE);
        Check.due("forget(0)", x.forget(0), 4);
        Check.due("forget(1)", x.forget(1), 3);
        Check.shows(x, "the RESULT stays", "6/1*2,-3");
        Check.due("forget(2)", x.forget(2), 1);
        Check.shows(x, "a POWER is lost", "6/1*2");
        Check.due("BASES", x.told(2), 1);
        Check.due("sort(1)", x.sort(1), NONE);
        Check.defines(x, "t !\nv 1 / t", 2);
        Check.shows(x, "it does not come back", "6/1*2");
        Check.reckons(x, "v", "1/1*0,-1");
        Check.due("forget(3)", x.forget(3), 0);
        Check.shows(x, "no POWERS are left", "1/1");
        Check.fails(x, "m", Check.UNKNOWN, 0);
        Check.defines(x, "a 2 as\nb 5\nas 7", 3);
        Check.due("as would be a's", x.forget(1), NONE);
        Check.due("nothing went", x.told(1), 3);
        Check.reckons(x, "a", "14/1");
        Check.due("all of them go", x.forget(3), 0);
        Check.defines(x, "a bb\nbb 3", 2);
        Check.due("forget(1)", x.forget(1), 1);
        Check.due("UNKNOWN again", x.faultOf(0), Check.UNKNOWN);
        Check.defines(x, "bb 4", 1);
        Check.reckons(x, "a", "4/1");
    }

    private static void syntaxOfTexts() {
        MeasureBook x = new MeasureBook(64);
        String[] texts = {
            "1 + ", "1 2 +", ")", "1)", "(1", "()", "(1 > 2)", "1 > 2", "1 !", "1 # 2", "1\n", "- -1", "1 - -1",
            "2 * -1", "+1", "2^", "2^-", "2^x", "2^(1)", "2^100", "2^1.0", "2^1e1", "2^3^2", "2^--1", "1|", "1|x",
            "1|-2", "1|2|3", "x|2", "(1)|2", "2^3|2", "1*/2", "1.", ".5", "1..5", "1.5.2", "a ? b", "zz + (",
            "2 ^ - 100", "1e1.5", "|", "^2", "1 (2", "1 + (-2", "1,5"
        };
        int[] places = {
            4, 5, 0, 1, 2, 1, 3, 2, 2, 2, 1, 2, 4, 4, 0, 2, 3, 2, 2, 2, 2, 2, 3, 3, 2, 2, 2, 3, 1, 3, 3, 2, 1, 0, 1,
            3, 2, 6, 6, 3, 0, 0, 4, 7, 1
        };
        Check.due("as many texts as places", texts.length, places.length);
        for (int i = 0; i < texts.length; i++) {
            Check.fails(x, texts[i], Check.SYNTAX, places[i]);
        }
        String open20 = "((((((((((((((((((((";
        String close20 = "))))))))))))))))))))";
        Check.reckons(x, open20 + "7" + close20, "7/1");
        Check.reckons(x, open20 + "7" + close20 + open20 + "-7" + close20, "-49/1");
        Check.fails(x, open20 + "(7)" + close20, Check.SYNTAX, 20);
        Check.fails(x, open20 + "2(7)" + close20, Check.SYNTAX, 21);
        Check.fails(x, "1/0 +", Check.SYNTAX, 5);
        Check.fails(x, "zz zz )", Check.SYNTAX, 6);
    }

    private static void tokens() {
        MeasureBook x = new MeasureBook(512);
        Check.defines(x, "e 7\ne3 11\nE3 13\nex 17\n_ 19\na_1B 23", 6);
        Check.reckons(x, "2e", "14/1");
        Check.reckons(x, "2e3", "2000/1");
        Check.reckons(x, "2E3", "26/1");
        Check.reckons(x, "2e+3", "2000/1");
        Check.reckons(x, "2e-3", "1/500");
        Check.reckons(x, "2e+e", "21/1");
        Check.reckons(x, "2e - 3", "11/1");
        Check.reckons(x, "2 e3", "22/1");
        Check.reckons(x, "2e1e3", "220/1");
        Check.reckons(x, "2ex", "34/1");
        Check.reckons(x, "2_", "38/1");
        Check.reckons(x, "2a_1B", "46/1");
        Check.reckons(x, "\t2\r*\t3 ", "6/1");
        Check.reckons(x, "2 ^ - 02", "1/4");
        Check.reckons(x, "1 ^ 0099", "1/1");
        Check.reckons(x, "2^2e", "28/1");
        Check.reckons(x, "00.50e001", "5/1");
        String sixty = "1".repeat(60);
        Check.reckons(x, sixty, sixty + "/1");
        Check.reckons(x, "1.".concat("1".repeat(59)).concat("e59"), sixty + "/1");
        Check.fails(x, "2 " + sixty + "1", Check.SYNTAX, 2);
        Check.fails(x, "1." + sixty, Check.SYNTAX, 0);
        Check.reckons(x, "1e001", "10/1");
        Check.fails(x, "1e0001", Check.SYNTAX, 0);
        Check.fails(x, "3 1e-0001", Check.SYNTAX, 2);
        Check.reckons(x, "0e999", "0/1");
        Check.reckons(x, "0.00e-999", "0/1");
        Check.fails(x, "1e999", Check.LARGE, 0);
        Check.fails(x, "1e-999", Check.LARGE, 0);
        Check.reckons(x, "1e154", "1" + "0".repeat(154) + "/1");
        Check.fails(x, "2e154", Check.LARGE, 0);
    }

    private static void arithmetic() {
        MeasureBook x = new MeasureBook(128);
        Check.defines(x, "m !\ns !\nz 0 m\nh 1|2", 4);
        Check.reckons(x, "1 + 2 * 3", "7/1");
        Check.reckons(x, "12 / 2 3", "2/1");
        Check.reckons(x, "12 / 2 * 3", "18/1");
        Check.reckons(x, "1 - 2 - 3", "-4/1");
        Check.reckons(x, "-2^2", "-4/1");
        Check.reckons(x, "(-2)^2", "4/1");
        Check.reckons(x, "(-2)^3", "-8/1");
        Check.reckons(x, "(-2)^-3", "-1/8");
        Check.reckons(x, "-2 3 + 10", "4/1");
        Check.reckons(x, "-3 * 2 / 4", "-3/2");
        Check.reckons(x, "2 3^2", "18/1");
        Check.reckons(x, "2|3^2", "4/9");
        Check.reckons(x, "3(1+1)(2-5)", "-18/1");
        Check.reckons(x, "1|3 + 1|6", "1/2");
        Check.reckons(x, "1|3 - 1|3", "0/1");
        Check.reckons(x, "1|3 - 1|2", "-1/6");
        Check.reckons(x, "-1|3 + 1|2", "1/6");
        Check.reckons(x, "0 / 5", "0/1");
        Check.reckons(x, "0^0", "1/1");
        Check.reckons(x, "0^-0", "1/1");
        Check.reckons(x, "0^3", "0/1");
        Check.reckons(x, "z^0", "1/1");
        Check.reckons(x, "5 z", "0/1*1");
        Check.reckons(x, "m / s / s m^-2", "1/1*3,-2");
        Check.reckons(x, "(m s)^3 / m^3", "1/1*0,3");
        Check.reckons(x, "m - 3 m", "-2/1*1");
        Check.reckons(x, "0.1 + 0.2", "3/10");
        Check.reckons(x, "h^99 2^99", "1/1");
        Check.reckons(x, "-0", "0/1");
        Check.due("sign of -0", x.sign(), 0);
        MeasureBook wide = new MeasureBook(512);
        Check.reckons(wide, "(10^50 + 1) / (10^50 - 1) * (10^25 - 1)",
            "1" + "0".repeat(49) + "1/1" + "0".repeat(24) + "1");
        Check.reckons(wide, "3^99 7^60 / (3^98 7^62)", "3/49");
        Check.reckons(wide, "((2^50)^4 + 1) / ((2^50)^2 3^40) * 3^41 / 3", wideQuotient());
    }

    private static String wideQuotient() {
        BigInteger two = BigInteger.TWO;
        return two.pow(200).add(BigInteger.ONE) + "/" + two.pow(100);
    }

    private static void actFaults() {
        MeasureBook x = new MeasureBook(16);
        Check.defines(x, "m !\ns !\nzero 0 m\nbig 65535\nhigh m^99\nlow m^-99", 6);
        Check.fails(x, "1 / 0", Check.ZERO, 2);
        Check.fails(x, "m / zero", Check.ZERO, 2);
        Check.fails(x, "1 | 0", Check.ZERO, 2);
        Check.fails(x, "0 ^ -1", Check.ZERO, 2);
        Check.fails(x, "zero ^ -99", Check.ZERO, 5);
        Check.fails(x, "high / (zero / m^2 / m^-98)", Check.ZERO, 5);
        Check.fails(x, "m + s", Check.MIXED, 2);
        Check.fails(x, "m - 1", Check.MIXED, 2);
        Check.fails(x, "big + m", Check.MIXED, 4);
        Check.fails(x, "zero + 0", Check.MIXED, 5);
        Check.fails(x, "high m", Check.POWERS, 5);
        Check.fails(x, "high * m", Check.POWERS, 5);
        Check.fails(x, "low / m", Check.POWERS, 4);
        Check.fails(x, "m^50 ^ 2", Check.SYNTAX, 5);
        Check.fails(x, "(m^50)^2", Check.POWERS, 6);
        Check.fails(x, "(m^-50)^2", Check.POWERS, 7);
        Check.fails(x, "(m^-50)^-2", Check.POWERS, 7);
        Check.fails(x, "2 big high m", Check.LARGE, 2);
        Check.fails(x, "(big m)^99", Check.LARGE, 7);
        Check.fails(x, "(big m^2)^99", Check.POWERS, 9);
        Check.fails(x, "big + 1", Check.LARGE, 4);
        Check.fails(x, "-big - 1", Check.LARGE, 5);
        Check.fails(x, "big * 2", Check.LARGE, 4);
        Check.fails(x, "big (2)", Check.LARGE, 4);
        Check.fails(x, "1 / big / 2", Check.LARGE, 8);
        Check.fails(x, "2^16", Check.LARGE, 1);
        Check.fails(x, "2^-16", Check.LARGE, 1);
        Check.fails(x, "65536", Check.LARGE, 0);
        Check.fails(x, "0.00001", Check.LARGE, 0);
        Check.fails(x, "65536|65536", Check.LARGE, 0);
        Check.fails(x, "1|65536", Check.LARGE, 2);
        Check.fails(x, "0.1|60000", Check.LARGE, 3);
        Check.fails(x, "2 * 1|65536", Check.LARGE, 6);
        Check.reckons(x, "2^15 + (2^15 - 1)", "65535/1");
        Check.reckons(x, "655350e-1", "65535/1");
        Check.reckons(x, "1|65535 * 65535|2", "1/2");
        Check.reckons(x, "high low", "1/1");
        Check.reckons(x, "high", "1/1*99");
        Check.reckons(x, "low", "1/1*-99");
        Check.fails(x, "zz + 1/0", Check.UNKNOWN, 0);
        Check.fails(x, "1/0 + zz", Check.ZERO, 1);
        Check.fails(x, "1/(0 zz)", Check.UNKNOWN, 5);
        Check.fails(x, "1 / 0 zz", Check.UNKNOWN, 6);
        Check.fails(x, "1 / 0 * zz", Check.ZERO, 2);
        Check.fails(x, "-1|0 + zz", Check.ZERO, 2);
    }

    private static void names() {
        MeasureBook x = new MeasureBook(64);
        Check.defines(x, "m !\ns !\nms 3\nk- 10\nki- 20\nkim- 30\nkimo 5 s\nlow 1/0\nb- zz\nB- 2^60\nP- m^99\nd 32 m", 12);
        Check.reckons(x, "m", "1/1*1");
        Check.reckons(x, "ms", "3/1");
        Check.reckons(x, "mss", "3/1");
        Check.reckons(x, "s", "1/1*0,1");
        Check.reckons(x, "ss", "1/1*0,1");
        Check.fails(x, "sss", Check.UNKNOWN, 0);
        Check.reckons(x, "km", "10/1*1");
        Check.reckons(x, "kms", "30/1");
        Check.reckons(x, "kim", "20/1*1");
        Check.reckons(x, "kimm", "30/1*1");
        Check.reckons(x, "kims", "30/1*0,1");
        Check.reckons(x, "kimo", "5/1*0,1");
        Check.reckons(x, "kimos", "5/1*0,1");
        Check.reckons(x, "kkimos", "50/1*0,1");
        Check.reckons(x, "ks", "10/1*0,1");
        Check.fails(x, "1 k", Check.UNKNOWN, 2);
        Check.fails(x, "kkm", Check.UNKNOWN, 0);
        Check.fails(x, "kK", Check.UNKNOWN, 0);
        Check.fails(x, "M", Check.UNKNOWN, 0);
        Check.fails(x, "1 low", Check.ZERO, 2);
        Check.fails(x, "1 lows", Check.ZERO, 2);
        Check.fails(x, "1 klow", Check.ZERO, 2);
        Check.fails(x, "1 bm", Check.UNKNOWN, 2);
        Check.fails(x, "1 blow", Check.UNKNOWN, 2);
        Check.fails(x, "1 Bd", Check.LARGE, 2);
        Check.fails(x, "1 Pm", Check.POWERS, 2);
        Check.fails(x, "1 Pd", Check.POWERS, 2);
        Check.reckons(x, "Bm", BigInteger.TWO.pow(60) + "/1*1");
        Check.defines(x, "kim 9", 1);
        Check.reckons(x, "kim", "9/1");
        Check.reckons(x, "kims", "9/1");
        Check.reckons(x, "kimm", "30/1*1");
    }

    private static void turning() {
        MeasureBook x = new MeasureBook(64);
        Check.defines(x, "m !\ns !\ninch 0.0254 m\nfoot 12 inch\nmile 5280 foot\nhour 3600 s\nnil 0 m", 7);
        Check.turns(x, "60 mile/hour > m/s", "16764/625");
        Check.turns(x, "foot>inch", "12/1");
        Check.turns(x, "0 m > -inch", "0/1");
        Check.turns(x, "-1 m > inch", "-5000/127");
        Check.turnFails(x, "m", Check.SYNTAX, 1);
        Check.turnFails(x, "m >", Check.SYNTAX, 3);
        Check.turnFails(x, "> m", Check.SYNTAX, 0);
        Check.turnFails(x, "m > m > m", Check.SYNTAX, 6);
        Check.turnFails(x, "(m > m)", Check.SYNTAX, 3);
        Check.turnFails(x, "1/0 > m m)", Check.SYNTAX, 9);
        Check.turnFails(x, "1/0 > zz", Check.ZERO, 1);
        Check.turnFails(x, "1 > zz", Check.UNKNOWN, 4);
        Check.turnFails(x, "zz > 1/0", Check.UNKNOWN, 0);
        Check.turnFails(x, "m > s", Check.MIXED, 2);
        Check.turnFails(x, "s > nil", Check.MIXED, 2);
        Check.turnFails(x, "m > nil", Check.ZERO, 2);
        Check.turnFails(x, "nil > nil", Check.ZERO, 4);
        Check.turnFails(x, "2^63 > 1|3", Check.LARGE, 5);
        Check.turnFails(x, "m^99 > m^-1", Check.MIXED, 5);
        Check.turns(x, "m^99 > 2 m^99", "1/2");
        Check.turns(x, "m^-99 > m^-99", "1/1");
    }

    private static void resultStays() {
        MeasureBook x = new MeasureBook(64);
        Check.defines(x, "m !", 1);
        Check.reckons(x, "-7|3 m^2", "-7/3*2");
        Check.due("sign", x.sign(), -1);
        Check.fails(x, "1/0", Check.ZERO, 1);
        Check.turnFails(x, "1 > m", Check.MIXED, 2);
        Check.refuses(x, "m 3", Check.TWICE, 0);
        Check.shows(x, "after FAULTS", "-7/3*2");
        Check.due("told(4)", x.told(4), 1);
        Check.turns(x, "1>2", "1/2");
        Check.due("told(4)", x.told(4), 2);
        Check.due("sign", x.sign(), 1);
        Check.fails(x, "zz", Check.UNKNOWN, 0);
        Check.due("forget leaves the FAULT", x.forget(9), NONE);
        Check.due("fault", x.fault(), Check.UNKNOWN);
        Check.defines(x, "n 3", 1);
        Check.due("power(-1)", x.power(-1), 0);
        Check.due("power(8)", x.power(8), 0);
        Check.due("power of no BASE", x.power(Integer.MAX_VALUE), 0);
    }

    private static void digitsAndPoint() {
        MeasureBook x = new MeasureBook(512);
        Check.reckons(x, "-1234567890123456789012|1000000007", "-1234567890123456789012/1000000007");
        Check.due("digits(0)", x.digits(0), 22);
        Check.due("digits(1)", x.digits(1), 10);
        Check.due("digits(2)", x.digits(2), NONE);
        Check.due("digits(-1)", x.digits(-1), NONE);
        Check.due("digit(0, 0)", x.digit(0, 0), 2);
        Check.due("digit(0, 21)", x.digit(0, 21), 1);
        Check.due("digit(0, 22)", x.digit(0, 22), NONE);
        Check.due("digit(0, -1)", x.digit(0, -1), NONE);
        Check.due("digit(1, 10)", x.digit(1, 10), NONE);
        Check.due("digit(2, 0)", x.digit(2, 0), NONE);
        pointsAsDue(x, new BigInteger("1234567890123456789012"), new BigInteger("1000000007"));
        Check.reckons(x, "22|7", "22/7");
        pointsAsDue(x, BigInteger.valueOf(22), BigInteger.valueOf(7));
        Check.reckons(x, "-1|8", "-1/8");
        pointsAsDue(x, BigInteger.ONE, BigInteger.valueOf(8));
        BigInteger large = BigInteger.TWO.pow(99).pow(5).add(BigInteger.valueOf(3));
        Check.reckons(x, "5^99 / ((2^99)^5 + 3)", BigInteger.valueOf(5).pow(99) + "/" + large);
        pointsAsDue(x, BigInteger.valueOf(5).pow(99), large);
        Check.due("point(0)", x.point(0), NONE);
        Check.due("point(-1)", x.point(-1), NONE);
        Check.due("point(301)", x.point(301), NONE);
        Check.reckons(x, "0", "0/1");
        Check.due("point of 0", x.point(300), 0);
        Check.due("digits of 0", x.digits(0), 1);
    }

    private static void pointsAsDue(MeasureBook x, BigInteger above, BigInteger below) {
        for (int i = 1; i <= 300; i += i < 40 ? 1 : 13) {
            BigInteger shifted = above.multiply(BigInteger.TEN.pow(i)).divide(below);
            Check.due("point " + i + " of " + above + "/" + below, x.point(i), shifted.mod(BigInteger.TEN).intValue());
        }
    }

    private static void endsOfFractions() {
        MeasureBook x = new MeasureBook(512);
        String[] texts = {"0", "3", "7|8", "1|25", "3|2000", "1|3", "1|6", "2^-99", "5^-99"};
        int[][] want = {
            {0, 0, 1}, {0, 0, 1}, {3, 0, 1}, {0, 2, 1}, {4, 3, 1}, {0, 0, 0}, {1, 0, 0}, {99, 0, 1}, {0, 99, 1}
        };
        for (int i = 0; i < want.length; i++) {
            Check.due("reckon " + texts[i], Check.reckon(x, texts[i]), 1);
            for (int which = 0; which < 3; which++) {
                Check.due("ends(" + which + ") of " + texts[i], x.ends(which), want[i][which]);
            }
        }
        Check.due("reckon", Check.reckon(x, "(2^-73)^7"), 1);
        Check.due("ends(0) of 2^-511", x.ends(0), 511);
        Check.due("ends(2) of 2^-511", x.ends(2), 1);
        Check.due("reckon", Check.reckon(x, "(5^-44)^5"), 1);
        Check.due("ends(1) of 5^-220", x.ends(1), 220);
        Check.due("ends(-1)", x.ends(-1), NONE);
        Check.due("ends(3)", x.ends(3), NONE);
    }

    private static void alikes() {
        MeasureBook x = new MeasureBook(64);
        Check.defines(x, "m !\ns !\na 3 m\nk- 2 m\nb 1/0 m\nc m m\nd c/m\nn 5", 8);
        alikeAsDue(x, "7 m", 0, 2, 6);
        alikeAsDue(x, "m^2", 5);
        alikeAsDue(x, "m^3");
        alikeAsDue(x, "s", 1);
        alikeAsDue(x, "1|2", 7);
        Check.due("alike(-1)", x.alike(-1), NONE);
        Check.due("alike(MAX)", x.alike(Integer.MAX_VALUE), NONE);
    }

    private static void alikeAsDue(MeasureBook x, String text, int... want) {
        Check.due("reckon " + text, Check.reckon(x, text), 1);
        for (int i = 0; i <= want.length; i++) {
            Check.due("alike(" + i + ") to " + text, x.alike(i), i < want.length ? want[i] : NONE);
        }
    }

    private static void lists() {
        MeasureBook x = new MeasureBook(16);
        Check.defines(x, "m !\nKm_9 1000 m\nk- 1000\nz 1/0\nbig 2^16\nu nn\nv zs\nw m + 1\np (m^99)^2\nq- 1|0", 10);
        int[] sorts = {0, 1, 2, 1, 1, 1, 1, 1, 1, 2};
        int[] faults = {0, 0, 0, Check.ZERO, Check.LARGE, Check.UNKNOWN, Check.ZERO, Check.MIXED, Check.POWERS, Check.ZERO};
        for (int k = 0; k < sorts.length; k++) {
            Check.due("sort " + k, x.sort(k), sorts[k]);
            Check.due("faultOf " + k, x.faultOf(k), faults[k]);
        }
        int[] none = {-1, 10, 100, Integer.MAX_VALUE, Integer.MIN_VALUE};
        for (int k : none) {
            Check.due("sort " + k, x.sort(k), NONE);
            Check.due("faultOf " + k, x.faultOf(k), NONE);
            Check.due("name " + k, x.name(k, 0), NONE);
        }
        String name = "Km_9";
        for (int i = 0; i < name.length(); i++) {
            Check.due("name 1 " + i, x.name(1, i), name.charAt(i));
        }
        Check.due("behind the NAME", x.name(1, 4), NONE);
        Check.due("ahead of the NAME", x.name(1, -1), NONE);
        Check.due("NAME of a PREFIX", x.name(2, 0), 'k');
        Check.due("behind it", x.name(2, 1), NONE);
    }
}
