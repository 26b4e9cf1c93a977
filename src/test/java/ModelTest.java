import java.nio.charset.StandardCharsets;
import java.util.Arrays;
import java.util.Random;

/** Runs of calls by draws (the same ones each time) on the class and on the model: each answer is compared. */
public final class ModelTest {
    private static final int RUNS = 260;
    private static final int CALLS = 512;

    private final Random random;
    private final int seed;
    private final SteamNations x = new SteamNations();
    private final Model m = new Model();
    private final int wide;
    private int calls = 0;

    private ModelTest(int seed) {
        this.seed = seed;
        this.random = new Random(seed);
        // Some runs mostly have numbers that can be, some many that can't.
        this.wide = seed % 3 == 0 ? 4 : 40;
    }

    public static void main(String[] args) {
        int runs = args.length > 0 ? Integer.parseInt(args[0]) : RUNS;
        int from = args.length > 1 ? Integer.parseInt(args[1]) : 0;
        for (int seed = from; seed < from + runs; seed++) {
            new ModelTest(seed).run();
        }
        Check.close("ModelTest");
    }

    private void run() {
        int most = seed % 7;
        for (int i = 0; i < most; i++) {
            int top = random.nextBoolean() ? 12 : 100;
            int r = random.nextInt(top);
            int b = random.nextInt(top);
            int g = random.nextInt(top);
            int wish = random.nextInt(3);
            same("sitter", x.sitter(r, b, g, wish), m.sitter(r, b, g, wish));
        }
        // The answers on paper about six sitters take the model long.
        int slow = most >= 5 ? 40 : 5;
        while (calls < CALLS) {
            if (random.nextInt(slow) == 0) {
                askSeatings();
            } else if (random.nextInt(9) == 0) {
                speak();
            } else if (random.nextInt(14) == 0) {
                sitDown();
            } else if (random.nextInt(3) == 0) {
                change();
            } else {
                ask();
            }
        }
    }

    /** All that can sit: the questions are idle in an empty room. */
    private void sitDown() {
        int start = random.nextInt(9);
        for (int p = 0; p < m.count(0); p++) {
            int seat = (start + p) % 9;
            same("seat(" + p + ", " + seat + ")", x.seat(p, seat), m.seat(p, seat));
        }
    }

    private void same(String call, long got, long want) {
        calls++;
        Check.due("run " + seed + ", call " + calls + ": " + call, got, want);
    }

    /** A number from 0 below n, at times one beside that. */
    private int below(int n) {
        if (random.nextInt(wide) == 0) {
            int[] odd = {-1, -2, n, n + 1, Integer.MIN_VALUE, Integer.MAX_VALUE, 1000, 99, 100};
            return odd[random.nextInt(odd.length)];
        }
        return random.nextInt(n);
    }

    /** Mostly the number of a sitter that there is. */
    private int one() {
        return below(random.nextInt(30) == 0 ? 6 : Math.max(1, m.count(0)));
    }

    private void put(String text) {
        byte[] bytes = text.getBytes(StandardCharsets.ISO_8859_1);
        for (int i = 0; i < bytes.length; i += 20) {
            byte[] b = Arrays.copyOfRange(bytes, i, i + 20);
            int[] n = {Check.four(b, 0), Check.four(b, 4), Check.four(b, 8), Check.four(b, 12), Check.four(b, 16)};
            same("feed", x.feed(n[0], n[1], n[2], n[3], n[4]), m.feed(n));
        }
        int length = random.nextInt(60) == 0 ? below(400) : bytes.length;
        same("end(" + length + ")", x.end(length), m.end(length));
    }

    private void speak() {
        int which = random.nextInt(12);
        if (which == 0) {
            byte[] bytes = new byte[random.nextInt(20)];
            for (int i = 0; i < bytes.length; i++) {
                bytes[i] = (byte) (random.nextInt(9) == 0 ? random.nextInt(256) : random.nextInt(3));
            }
            put(new String(bytes, StandardCharsets.ISO_8859_1));
            same("row()", x.row(), m.row());
            same("puffs()", x.puffs(), m.puffs());
        } else if (which < 5) {
            String text = new Texts(random, false).draw();
            put(text);
            same("law() of " + text, x.law(), m.law());
            int law = random.nextInt(6) == 0 ? below(6) : m.count(3) - 1;
            same("force(" + law + ")", x.force(law), m.force(law));
        } else {
            String text = new Texts(random, true).draw();
            put(text);
            same("orders() of " + text, x.orders(), m.orders());
            same("stopped()", x.stopped(), m.stopped());
        }
        same("fault()", x.fault(), m.fault());
        state();
    }

    private void state() {
        int p = random.nextInt(6);
        int what = random.nextInt(8);
        same("of(" + p + ", " + what + ")", x.of(p, what), m.of(p, what));
        int which = random.nextInt(18);
        same("count(" + which + ")", x.count(which), m.count(which));
        same("status()", x.status(), m.status());
    }

    private void change() {
        int a = one();
        int b = below(9);
        int c = below(3);
        switch (random.nextInt(40) == 0 ? random.nextInt(2) : 2 + random.nextInt(16)) {
            case 0:
                same("sitter", x.sitter(below2(a), 5, b, c), m.sitter(below2(a), 5, b, c));
                break;
            case 1:
                int value = random.nextInt(4) == 0 ? 990 + random.nextInt(11) : below(11);
                same("terms(" + c + ", " + value + ")", x.terms(c, value), m.terms(c, value));
                break;
            case 2:
            case 3:
            case 4:
            case 5:
                same("seat(" + a + ", " + b + ")", x.seat(a, b), m.seat(a, b));
                break;
            case 6:
                same("out(" + a + ")", x.out(a), m.out(a));
                break;
            case 7:
            case 8:
                int d = one();
                same("swap(" + a + ", " + d + ")", x.swap(a, d), m.swap(a, d));
                break;
            case 9:
            case 10:
                same("pass()", x.pass(), m.pass());
                break;
            case 11:
            case 12:
                same("undo()", x.undo(), m.undo());
                break;
            case 13:
                int k = below(2);
                same("image(" + k + ")", x.image(k), m.image(k));
                break;
            case 14:
                int l = below(2);
                same("back(" + l + ")", x.back(l), m.back(l));
                break;
            case 15:
                int law = random.nextInt(8) - 1;
                same("force(" + law + ")", x.force(law), m.force(law));
                break;
            case 16:
                int n = below(61);
                int s = random.nextInt(20) == 0 ? 1000000 + random.nextInt(2) : below(1000000);
                same("mornings(" + s + ", " + n + ")", x.mornings(s, n), m.mornings(s, n));
                break;
            default:
                same("feed", x.feed(a, b, c, 0, -1), m.feed(a, b, c, 0, -1));
                int to = random.nextInt(30);
                same("end(" + to + ")", x.end(to), m.end(to));
                break;
        }
        state();
    }

    private static int below2(int a) {
        return a == 1000 ? 100 : a;
    }

    private void ask() {
        int a = one();
        int b = one();
        int n = below(61);
        int w = below(4);
        switch (random.nextInt(13)) {
            case 0:
                same("at(" + b + ")", x.at(b), m.at(b));
                break;
            case 1:
            case 2:
                same("asks(" + a + ", " + b + ")", x.asks(a, b), m.asks(a, b));
                break;
            case 3:
            case 4:
                same("later(" + a + ", " + n + ", " + w + ")", x.later(a, n, w), m.later(a, n, w));
                break;
            case 5:
                same("when(" + a + ", " + w + ")", x.when(a, w), m.when(a, w));
                break;
            case 6:
                same("one()", x.one(), m.one());
                break;
            case 7:
                int k = below(100);
                same("treaty(" + k + ", " + w + ")", x.treaty(k, w % 2), m.treaty(k, w % 2));
                break;
            case 8:
                same("drop(" + a + ", " + n + ", " + b + ")", x.drop(a, n, b), m.drop(a, n, b));
                break;
            case 9:
                int few = below(21);
                int of = below(100);
                same("few(" + few + ", " + of + ")", x.few(few, of), m.few(few, of));
                break;
            case 10:
            case 11:
                int law = random.nextInt(8) - 1;
                same("compare(" + law + ", " + n + ")", x.compare(law, n), m.compare(law, n));
                break;
            default:
                same("drawn(" + a + ", " + w + ")", x.drawn(a, w), m.drawn(a, w));
                break;
        }
        state();
    }

    private void askSeatings() {
        int n = below(10);
        int w = below(8);
        int a = one();
        switch (random.nextInt(8)) {
            case 0:
            case 1:
                same("pleased(" + n + ", " + w + ")", x.pleased(n, w), m.pleased(n, w));
                break;
            case 2:
            case 3:
                same("exchanges(" + n + ", 0)", x.exchanges(n, 0), m.exchanges(n, 0));
                same("exchanges(" + n + ", " + w % 3 + ")", x.exchanges(n, w % 3), m.exchanges(n, w % 3));
                break;
            case 4:
                int c = below(3);
                same("seen(" + a + ", " + n + ", " + c + ")", x.seen(a, n, c), m.seen(a, n, c));
                break;
            case 5:
                int i = random.nextInt(9) - 2;
                same("sat(" + i + ", " + a + ")", x.sat(i, a), m.sat(i, a));
                break;
            case 6:
                same("ask(" + n + ", " + w % 3 + ")", x.ask(n, w % 3), m.ask(n, w % 3));
                break;
            default:
                if (random.nextInt(3) == 0) {
                    same("forget()", x.forget(), m.forget());
                }
                break;
        }
    }
}
