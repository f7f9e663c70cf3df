import java.nio.charset.StandardCharsets;

/** What the tests share: feeding texts into a book and counting wrong answers. */
final class Check {
    static final int SYNTAX = 1;
    static final int TWICE = 2;
    static final int MUCH = 3;
    static final int ENDLESS = 4;
    static final int UNKNOWN = 5;
    static final int ZERO = 6;
    static final int MIXED = 7;
    static final int POWERS = 8;
    static final int LARGE = 9;

    private static int wrong;

    private Check() {
    }

    static void due(String call, long got, long want) {
        if (got != want) {
            wrong++;
            System.out.println(call + " answered " + got + ", due is " + want);
        }
    }

    static int four(byte[] bytes, int at) {
        int number = 0;
        for (int i = at; i < at + 4; i++) {
            number = number << 8 | (i < bytes.length ? bytes[i] & 255 : ' ');
        }
        return number;
    }

    /** Puts a text behind the TAPE. */
    static void feed(MeasureBook book, String text) {
        byte[] bytes = text.getBytes(StandardCharsets.ISO_8859_1);
        int before = book.told(0);
        for (int at = 0; at < bytes.length; at += 20) {
            book.feed(four(bytes, at), four(bytes, at + 4), four(bytes, at + 8),
                four(bytes, at + 12), four(bytes, at + 16));
        }
        book.cut(before + bytes.length);
    }

    static int define(MeasureBook book, String text) {
        feed(book, text);
        return book.define();
    }

    static int reckon(MeasureBook book, String text) {
        feed(book, text);
        return book.reckon();
    }

    static int turn(MeasureBook book, String text) {
        feed(book, text);
        return book.turn();
    }

    static void defines(MeasureBook book, String text, int want) {
        due("define \"" + text + "\"", define(book, text), want);
        due("fault after define \"" + text + "\"", book.fault(), 0);
    }

    static void refuses(MeasureBook book, String text, int fault, int place) {
        due("define \"" + text + "\"", define(book, text), -10 - place);
        due("fault after define \"" + text + "\"", book.fault(), fault);
    }

    static void reckons(MeasureBook book, String text, String want) {
        due("reckon \"" + text + "\"", reckon(book, text), 1);
        due("fault after reckon \"" + text + "\"", book.fault(), 0);
        shows(book, "reckon \"" + text + "\"", want);
    }

    static void fails(MeasureBook book, String text, int fault, int place) {
        due("reckon \"" + text + "\"", reckon(book, text), -10 - place);
        due("fault after reckon \"" + text + "\"", book.fault(), fault);
    }

    static void turns(MeasureBook book, String text, String want) {
        due("turn \"" + text + "\"", turn(book, text), 1);
        due("fault after turn \"" + text + "\"", book.fault(), 0);
        shows(book, "turn \"" + text + "\"", want);
    }

    static void turnFails(MeasureBook book, String text, int fault, int place) {
        due("turn \"" + text + "\"", turn(book, text), -10 - place);
        due("fault after turn \"" + text + "\"", book.fault(), fault);
    }

    static void shows(MeasureBook book, String what, String want) {
        String got = result(book);
        if (!got.equals(want)) {
            wrong++;
            System.out.println(what + ": the RESULT is " + got + ", due is " + want);
        }
    }

    /** The RESULT as -7/3, with a * and the powers behind it if one is not 0, as in 5/1*0,1. */
    static String result(MeasureBook book) {
        StringBuilder text = new StringBuilder(book.sign() < 0 ? "-" : "");
        boolean zero = book.digits(0) == 1 && book.digit(0, 0) == 0;
        if (zero != (book.sign() == 0)) {
            text.append("a wrong sign: ");
        }
        for (int part = 0; part < 2; part++) {
            for (int i = book.digits(part) - 1; i >= 0; i--) {
                text.append(book.digit(part, i));
            }
            text.append(part == 0 ? "/" : "");
        }
        int last = 7;
        while (last >= 0 && book.power(last) == 0) {
            last--;
        }
        for (int base = 0; base <= last; base++) {
            text.append(base == 0 ? "*" : ",").append(book.power(base));
        }
        return text.toString();
    }

    static void end() {
        System.out.println(wrong == 0 ? "all answers are as due" : wrong + " answers are not as due");
        if (wrong != 0) {
            System.exit(1);
        }
    }
}
