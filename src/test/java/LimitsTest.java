import java.lang.management.ManagementFactory;
import java.util.Random;

/** Wild calls end without an exception, and what a run of dear calls makes stays small. */
public final class LimitsTest {
    /** Far below what a run may make: 7.3 million fields and elements. */
    private static final long MOST_BYTES_MADE = 4L << 20;
    private static final int[] ODD = {0, 1, 2, 3, 4, 5, 6, 7, 8, 9, 10, 17, 18, 20, 21, 59, 60, 61, 99, 100, 400, 998, 999, 1000,
        1000000, 1000001, 1000003, -1, -2, -3, -9, Integer.MAX_VALUE, Integer.MAX_VALUE - 1, Integer.MIN_VALUE,
        Integer.MIN_VALUE + 1, 1 << 30, 1 << 31, 715827883, 1431655766};

    private LimitsTest() {
    }

    public static void main(String[] args) {
        for (int seed = 0; seed < 400; seed++) {
            wild(new Random(seed));
        }
        Check.so("wild calls end", true);
        deepTexts();
        Check.so("a run of dear calls makes little: " + dear(), dear() < MOST_BYTES_MADE);
        Check.close("LimitsTest");
    }

    private static void wild(Random random) {
        SteamNations x = new SteamNations();
        for (int i = 0; i < 512; i++) {
            int[] a = new int[5];
            for (int k = 0; k < a.length; k++) {
                a[k] = random.nextInt(3) > 0 ? random.nextInt(9) : ODD[random.nextInt(ODD.length)];
            }
            if (random.nextInt(30) == 0) {
                byte[] bytes = new byte[random.nextInt(401)];
                random.nextBytes(bytes);
                Check.put(x, bytes);
            }
            call(x, random.nextInt(38), a);
        }
    }

    private static long call(SteamNations x, int which, int[] a) {
        switch (which) {
            case 0: return x.sitter(a[0], a[1], a[2], a[3]);
            case 1: return x.of(a[0], a[1]);
            case 2: return x.at(a[0]);
            case 3: return x.asks(a[0], a[1]);
            case 4: return x.terms(a[0], a[1]);
            case 5: return x.feed(a[0], a[1], a[2], a[3], a[4]);
            case 6: return x.end(a[0]);
            case 7: return x.row();
            case 8: return x.puffs();
            case 9: return x.law();
            case 10: return x.orders();
            case 11: return x.fault();
            case 12: return x.stopped();
            case 13: return x.force(a[0]);
            case 14: return x.seat(a[0], a[1]);
            case 15: return x.out(a[0]);
            case 16: return x.swap(a[0], a[1]);
            case 17: return x.pass();
            case 18: return x.undo();
            case 19: return x.later(a[0], a[1], a[2]);
            case 20: return x.when(a[0], a[1]);
            case 21: return x.one();
            case 22: return x.pleased(a[0], a[1]);
            case 23: return x.exchanges(a[0], a[1]);
            case 24: return x.seen(a[0], a[1], a[2]);
            case 25: return x.forget();
            case 26: return x.sat(a[0], a[1]);
            case 27: return x.ask(a[0], a[1]);
            case 28: return x.treaty(a[0], a[1]);
            case 29: return x.drop(a[0], a[1], a[2]);
            case 30: return x.few(a[0], a[1]);
            case 31: return x.compare(a[0], a[1]);
            case 32: return x.mornings(a[0], a[1]);
            case 33: return x.drawn(a[0], a[1]);
            case 34: return x.image(a[0]);
            case 35: return x.back(a[0]);
            case 36: return x.count(a[0]);
            default: return x.status();
        }
    }

    /** Texts that are as deep and as long as can be. */
    private static void deepTexts() {
        String[] deep = {
            "keeps if " + "not".repeat(1) + " not".repeat(96),
            "keeps if " + "(".repeat(391),
            "passes " + "[".repeat(393),
            "keeps if " + "not(".repeat(8) + "[1]=1" + ")".repeat(8),
            "passes " + "1+[".repeat(8) + "2*3" + "]".repeat(8) + "*2",
            "passes " + "9".repeat(393),
            "z".repeat(400),
            ";".repeat(400)
        };
        for (String text : deep) {
            SteamNations x = new SteamNations();
            Check.so("at most 400: " + text, text.length() <= 400);
            int law = Check.law(x, text);
            Check.so("read to an end: " + text, law == 0 || law == -6);
        }
    }

    private static long dear() {
        com.sun.management.ThreadMXBean bean = (com.sun.management.ThreadMXBean) ManagementFactory.getThreadMXBean();
        String orders = "pass times 20;swap 0 with 1 times 20 if " + "minute+".repeat(46) + "1>0;pass";
        long own = Thread.currentThread().getId();
        long ahead = bean.getThreadAllocatedBytes(own);
        SteamNations x = new SteamNations();
        for (int p = 0; p < 6; p++) {
            x.sitter(90, 9 * p, 80, p % 3);
            x.seat(p, p);
        }
        Check.rule(x, "passes " + "much+".repeat(40) + "1;keeps if tier=2 and minute%3=0");
        for (int i = 0; i < 60; i++) {
            x.pleased(9, 0);
            x.exchanges(9, 1);
            x.sat(-1, 0);
            x.ask(9, 1);
            x.swap(0, 1);
            x.later(0, 60, 0);
            x.mornings(i, 60);
            x.image(0);
            Check.orders(x, orders);
        }
        return bean.getThreadAllocatedBytes(own) - ahead;
    }
}
