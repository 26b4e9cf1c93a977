import java.nio.charset.StandardCharsets;
import java.util.Arrays;

/** What the tests share: compare answers, put texts on the tape, close with an exit code. */
final class Check {
    private static int wrong = 0;
    private static int asked = 0;
    private static String opened = "";

    private Check() {
    }

    static void due(String what, long got, long want) {
        asked++;
        if (got != want) {
            wrong++;
            System.out.println(opened + what + " answered " + got + ", due is " + want);
        }
    }

    /** All that follows is of this. */
    static void open(String name) {
        opened = name.isEmpty() ? "" : name + ": ";
    }

    static void so(String what, boolean is) {
        due(what, is ? 1 : 0, 1);
    }

    /** Ends the test; exit code 1 if an answer was not as due. */
    static void close(String name) {
        System.out.println(name + ": " + asked + " answers, " + wrong + " not as due");
        if (wrong != 0) {
            System.exit(1);
        }
    }

    static void put(SteamNations x, String text) {
        put(x, text.getBytes(StandardCharsets.ISO_8859_1));
    }

    /** Puts bytes on the tape, which must be empty. */
    static void put(SteamNations x, byte[] bytes) {
        x.end(0);
        for (int i = 0; i < bytes.length; i += 20) {
            byte[] twenty = Arrays.copyOfRange(bytes, i, i + 20);
            x.feed(four(twenty, 0), four(twenty, 4), four(twenty, 8), four(twenty, 12), four(twenty, 16));
        }
        x.end(bytes.length);
    }

    static int four(byte[] bytes, int i) {
        return (bytes[i] & 255) << 24 | (bytes[i + 1] & 255) << 16 | (bytes[i + 2] & 255) << 8 | bytes[i + 3] & 255;
    }

    static int law(SteamNations x, String text) {
        put(x, text);
        return x.law();
    }

    static int orders(SteamNations x, String text) {
        put(x, text);
        return x.orders();
    }

    /** A law that is in force then. */
    static void rule(SteamNations x, String text) {
        int law = law(x, text);
        so("law: " + text, law >= 0);
        x.force(law);
    }

    /** Due is that a law has its fault at a place (NONE: it has none). */
    static void lawFault(String text, int place) {
        SteamNations x = new SteamNations();
        due("law " + text, law(x, text), place == SteamNations.NONE ? 0 : -6);
        due("fault of law " + text, x.fault(), place);
        due("laws behind " + text, x.count(3), place == SteamNations.NONE ? 1 : 0);
    }

    /** Due is that orders have their fault at a place. */
    static void ordersFault(String text, int place) {
        SteamNations x = new SteamNations();
        due("orders " + text, orders(x, text), -6);
        due("fault of orders " + text, x.fault(), place);
    }

    /** Sitters of these parts, three numbers each, who all wish to be nation 0. */
    static void sitters(SteamNations x, int... parts) {
        for (int i = 0; i + 2 < parts.length; i += 3) {
            x.sitter(parts[i], parts[i + 1], parts[i + 2], 0);
        }
    }

    /** Six sitters of nothing on seats 0 to 5. */
    static void fullRoom(SteamNations x) {
        for (int p = 0; p < 6; p++) {
            x.sitter(0, 0, 0, 0);
            x.seat(p, p);
        }
    }

    static String times(String text, int n) {
        return text.repeat(n);
    }
}
