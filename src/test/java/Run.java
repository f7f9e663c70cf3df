import java.nio.charset.StandardCharsets;

/**
 * One book with the calls upon it counted, since the document leaves free what is answered beyond the
 * 512th: a test that goes there is wrong itself.
 */
final class Run {
    static final int MOST_CALLS = 512;

    private final MeasureBook book;
    private int calls;

    Run(int bits) {
        book = new MeasureBook(bits);
    }

    private MeasureBook call() {
        calls++;
        if (calls == MOST_CALLS + 1) {
            Check.wrong("a test makes more than 512 calls on one object");
        }
        return book;
    }

    int calls() {
        return calls;
    }

    int feed(int a, int b, int c, int d, int e) {
        return call().feed(a, b, c, d, e);
    }

    int cut(int n) {
        return call().cut(n);
    }

    int define() {
        return call().define();
    }

    int forget(int n) {
        return call().forget(n);
    }

    int reckon() {
        return call().reckon();
    }

    int turn() {
        return call().turn();
    }

    int fault() {
        return call().fault();
    }

    int sign() {
        return call().sign();
    }

    int power(int base) {
        return call().power(base);
    }

    int digits(int part) {
        return call().digits(part);
    }

    int digit(int part, int i) {
        return call().digit(part, i);
    }

    int point(int i) {
        return call().point(i);
    }

    int ends(int which) {
        return call().ends(which);
    }

    int alike(int i) {
        return call().alike(i);
    }

    int sort(int k) {
        return call().sort(k);
    }

    int faultOf(int k) {
        return call().faultOf(k);
    }

    int name(int k, int i) {
        return call().name(k, i);
    }

    int told(int what) {
        return call().told(what);
    }

    /** Puts a text on the TAPE, which must be empty. */
    void put(String text) {
        byte[] bytes = text.getBytes(StandardCharsets.ISO_8859_1);
        for (int at = 0; at < bytes.length; at += 20) {
            feed(Check.four(bytes, at), Check.four(bytes, at + 4), Check.four(bytes, at + 8),
                Check.four(bytes, at + 12), Check.four(bytes, at + 16));
        }
        if (bytes.length % 20 != 0) {
            cut(bytes.length);
        }
    }

    /** The FILE comes into the book, so many DEFINITIONS. */
    void defines(String text, int want) {
        put(text);
        Check.due("define \"" + text + "\"", define(), want);
        Check.due("fault after define \"" + text + "\"", fault(), 0);
    }

    /** The FILE has this FAULT at this place. */
    void refuses(String text, int fault, int place) {
        put(text);
        Check.due("define \"" + text + "\"", define(), -10 - place);
        Check.due("fault after define \"" + text + "\"", fault(), fault);
    }

    /** The EXPR has this VALUE, in the form of result(). */
    void reckons(String text, String want) {
        put(text);
        Check.due("reckon \"" + text + "\"", reckon(), 1);
        Check.due("fault after reckon \"" + text + "\"", fault(), 0);
        shows("reckon \"" + text + "\"", want);
    }

    void fails(String text, int fault, int place) {
        put(text);
        Check.due("reckon \"" + text + "\"", reckon(), -10 - place);
        Check.due("fault after reckon \"" + text + "\"", fault(), fault);
    }

    void turns(String text, String want) {
        put(text);
        Check.due("turn \"" + text + "\"", turn(), 1);
        Check.due("fault after turn \"" + text + "\"", fault(), 0);
        shows("turn \"" + text + "\"", want);
    }

    void turnFails(String text, int fault, int place) {
        put(text);
        Check.due("turn \"" + text + "\"", turn(), -10 - place);
        Check.due("fault after turn \"" + text + "\"", fault(), fault);
    }

    void shows(String what, String want) {
        String got = result();
        if (!got.equals(want)) {
            Check.wrong(what + ": the RESULT is " + got + ", due is " + want);
        }
    }

    /** The RESULT as -7/3, with a * and the powers behind it if one is not 0, as in 5/1*0,1. */
    String result() {
        int sign = sign();
        StringBuilder text = new StringBuilder(sign < 0 ? "-" : "");
        for (int part = 0; part < 2; part++) {
            for (int i = digits(part) - 1; i >= 0; i--) {
                text.append(digit(part, i));
            }
            text.append(part == 0 ? "/" : "");
        }
        boolean zero = text.toString().startsWith("0/");
        if (zero != (sign == 0) || sign < -1 || sign > 1) {
            text.append(" with sign ").append(sign);
        }
        int last = 7;
        while (last >= 0 && power(last) == 0) {
            last--;
        }
        for (int base = 0; base <= last; base++) {
            text.append(base == 0 ? "*" : ",").append(power(base));
        }
        return text.toString();
    }

    String nameOf(int k) {
        StringBuilder name = new StringBuilder();
        for (int i = 0; i < 30; i++) {
            int b = name(k, i);
            if (b < 0) {
                break;
            }
            name.append((char) b);
        }
        return name.toString();
    }
}
