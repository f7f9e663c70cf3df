import java.lang.management.ManagementFactory;
import java.nio.charset.StandardCharsets;

/** Calls without sense, also beyond the 512th: none may throw, and none may make more than it needs. */
public final class WildTests {
    private static final int[] ODD = {
        0, 1, 2, 3, -1, 7, 8, 99, 100, 4000, Integer.MAX_VALUE, Integer.MIN_VALUE, -2, 300, 301, 20
    };
    private static final String[] DENSE = {
        "a%d 1a 1a 1a 1a 1a", "b%d- 1_ 1_(1_)1_ 1_", "c%d ((((((((((((((((((((1a+(2", "d%d !", "e%d 1|3^99 7|9",
        "f%d 1-2*3 4^2", "g%d(1+2*3(1+2*3(1+2*3(1+2*3(c%d)))))", "h%d bb gs as \n#"
    };

    private long seed = 4711;

    public static void main(String[] args) {
        WildTests wild = new WildTests();
        for (int run = 0; run < 60; run++) {
            wild.anyCalls(new MeasureBook(wild.pick(600) - 40), 3000);
        }
        for (int run = 0; run < 10; run++) {
            wild.fullTapes(new MeasureBook(512));
        }
        wild.deepChain();
        wild.room();
        Check.end();
    }

    private int pick(int below) {
        seed = seed * 6364136223846793005L + 1442695040888963407L;
        return (int) ((seed >>> 33) % below);
    }

    private int odd() {
        return ODD[pick(ODD.length)];
    }

    private void anyCalls(MeasureBook x, int calls) {
        for (int i = 0; i < calls; i++) {
            call(x, pick(24));
        }
    }

    /** Puts a text behind what is on the TAPE, as much of it as there is room for. */
    private static void feed(MeasureBook x, String text) {
        byte[] bytes = text.getBytes(StandardCharsets.ISO_8859_1);
        int before = x.told(0);
        for (int at = 0; at < bytes.length; at += 20) {
            x.feed(Check.four(bytes, at), Check.four(bytes, at + 4), Check.four(bytes, at + 8),
                Check.four(bytes, at + 12), Check.four(bytes, at + 16));
        }
        x.cut(before + bytes.length);
    }

    private void call(MeasureBook x, int which) {
        switch (which) {
            case 0 -> x.feed(odd(), pick(1 << 30), odd(), odd() * 77777, odd());
            case 1 -> x.cut(odd());
            case 2 -> x.define();
            case 3 -> x.forget(pick(4) == 0 ? odd() : 1);
            case 4 -> x.reckon();
            case 5 -> x.turn();
            case 6 -> x.fault();
            case 7 -> x.sign();
            case 8 -> x.power(odd());
            case 9 -> x.digits(odd());
            case 10 -> x.digit(odd(), odd());
            case 11 -> x.point(odd());
            case 12 -> x.ends(odd());
            case 13 -> x.alike(odd());
            case 14 -> x.sort(odd());
            case 15 -> x.faultOf(odd());
            case 16 -> x.name(odd(), odd());
            case 17 -> x.told(odd());
            default -> feed(x, DENSE[pick(DENSE.length)].replace("%d", String.valueOf(pick(40))) + "\n");
        }
    }

    /** More text than 512 calls could bring. */
    private void fullTapes(MeasureBook x) {
        for (int i = 0; i < 40; i++) {
            StringBuilder text = new StringBuilder("n" + i + " 1");
            String more = new String[] {" 1a", "+1", "(1)", "*n0", "1a-", "-n3 n1"}[pick(6)];
            while (text.length() < 3900) {
                text.append(more);
            }
            feed(x, text + (pick(2) == 0 ? "" : "1"));
            call(x, pick(2) == 0 ? 2 : 4 + pick(2));
            for (int what = 6; what < 18; what++) {
                call(x, what);
            }
        }
    }

    /** Each waits for the next one, which comes later, from within as many ( as there may be. */
    private void deepChain() {
        Run x = new Run(512);
        StringBuilder part = new StringBuilder();
        for (int i = 0; i < 64; i++) {
            String next = i == 63 ? "0" : "n" + (i + 1);
            String line = "n" + i + " " + "1+1*1(".repeat(20) + next + ")".repeat(20) + "\n";
            if (part.length() + line.length() > 4000) {
                x.put(part.toString());
                Check.holds("a part of the chain comes", x.define() > 0);
                part.setLength(0);
            }
            part.append(line);
        }
        x.put(part.toString());
        Check.holds("the last part of the chain comes", x.define() > 0);
        x.reckons("n0", 64 * 20 + "/1");
        Run y = new Run(512);
        y.defines(fullChain(), 100);
        y.reckons("n0", 99 * 2 + 7 + "/1");
    }

    /** Each of 100 waits for the next one, so that all of them are open at once. */
    private static String fullChain() {
        StringBuilder file = new StringBuilder();
        for (int i = 0; i < 99; i++) {
            file.append("n").append(i).append(" 1+1*1(1+1*1(n").append(i + 1).append("))\n");
        }
        return file + "n99 7";
    }

    /**
     * A run's calls must fit in a room of 7.3 million fields and elements; each of these takes a byte or
     * more, so that as many bytes are fewer of them.
     */
    private void room() {
        com.sun.management.ThreadMXBean bean = (com.sun.management.ThreadMXBean) ManagementFactory.getThreadMXBean();
        byte[] chain = fullChain().getBytes(StandardCharsets.ISO_8859_1);
        long start = bean.getCurrentThreadAllocatedBytes();
        MeasureBook x = new MeasureBook(512);
        for (int at = 0; at < chain.length; at += 20) {
            x.feed(Check.four(chain, at), Check.four(chain, at + 4), Check.four(chain, at + 8),
                Check.four(chain, at + 12), Check.four(chain, at + 16));
        }
        Check.due("define", x.define(), 100);
        x.forget(1);
        for (int i = 0; i < 60; i++) {
            x.feed(0x61612031, 0x7C33202B, 0x2837202A, 0x20322F33, 0x29200A20);
            int answer = i % 3 == 0 ? x.define() : i % 3 == 1 ? x.reckon() : x.forget(i % 2);
            x.point(300);
            x.digit(0, i);
            x.ends(2);
            x.alike(answer);
        }
        long bytes = bean.getCurrentThreadAllocatedBytes() - start;
        Check.holds("a run makes less than 7,300,000 bytes: " + bytes, bytes < 7_300_000);
    }
}
