/** One group for each promise of the document: ordinary inputs, its edges, wrong inputs; answers worked out by hand. */
public final class PromisesTest {
    private static final int NONE = SteamNations.NONE;
    private static final int LOW = Integer.MIN_VALUE;
    private static final int HIGH = Integer.MAX_VALUE;

    private PromisesTest() {
    }

    public static void main(String[] args) {
        newObject();
        sitter();
        of();
        at();
        asks();
        terms();
        feedAndEnd();
        rowAndPuffs();
        law();
        orders();
        ordersWords();
        ordersWhollyOrNot();
        faultAndStopped();
        force();
        seat();
        out();
        swap();
        pass();
        undo();
        later();
        when();
        one();
        pleased();
        exchanges();
        seenAndForget();
        sat();
        ask();
        treaty();
        drop();
        few();
        compare();
        mornings();
        imageAndBack();
        lawsAndSightsOfImages();
        seatingsOfNow();
        count();
        status();
        Check.close("PromisesTest");
    }

    private static void due(String what, long got, long want) {
        Check.due(what, got, want);
    }

    /** A room with sitters of these parts, three numbers each, who all wish to be nation 0. */
    private static SteamNations room(int... parts) {
        SteamNations x = new SteamNations();
        for (int i = 0; i + 2 < parts.length; i += 3) {
            x.sitter(parts[i], parts[i + 1], parts[i + 2], 0);
        }
        return x;
    }

    // Promise 1
    private static void newObject() {
        SteamNations x = new SteamNations();
        int[] counts = {0, 0, 0, 0, 0, 0, 0, 0, 0, 0, 0, NONE, 0, 1, 0, 0, 0, 0};
        for (int what = 0; what < counts.length; what++) {
            due("new: count(" + what + ")", x.count(what), counts[what]);
        }
        for (int seat = 0; seat < 9; seat++) {
            due("new: at", x.at(seat), NONE);
        }
        due("new: of", x.of(0, 0), NONE);
        due("new: puffs", x.puffs(), 0);
        due("new: fault", x.fault(), NONE);
        due("new: stopped", x.stopped(), NONE);
        due("new: status", x.status(), 0);
        due("new: drawn", x.drawn(0, 0), NONE);
        due("new: back", x.back(0), -2);
        due("new: forget", x.forget(), 0);
        due("NONE", NONE, -1);
    }

    // Promise 2
    private static void sitter() {
        SteamNations x = new SteamNations();
        int[][] wrong = {{-1, 0, 0, 0}, {0, -1, 0, 0}, {0, 0, -1, 0}, {0, 0, 0, -1}, {100, 0, 0, 0}, {0, 100, 0, 0},
            {0, 0, 100, 0}, {0, 0, 0, 3}, {LOW, 0, 0, 0}, {0, 0, 0, HIGH}};
        for (int[] w : wrong) {
            due("sitter wrong", x.sitter(w[0], w[1], w[2], w[3]), -1);
        }
        for (int p = 0; p < 6; p++) {
            due("sitter " + p, x.sitter(99, p, 0, p % 3), p);
            due("sitter's seat", x.of(p, 4), NONE);
            due("sitter's red", x.of(p, 0), 99);
            due("sitter's blue", x.of(p, 1), p);
            due("sitter's wish", x.of(p, 3), p % 3);
        }
        due("sitter, no room", x.sitter(0, 0, 0, 0), -5);
        due("sitter, no room and wrong", x.sitter(0, 0, 0, 3), -1);
        due("sitters", x.count(0), 6);
    }

    // Promise 3
    private static void of() {
        SteamNations x = room(5, 5, 4, 0, 0, 0, 1, 2, 2, 1, 2, 3);
        int[] is = {0, 0, 1, 2};
        for (int p = 0; p < 4; p++) {
            due("is, the lowest of alike ones: " + p, x.of(p, 5), is[p]);
        }
        due("of: keeps, OUT", x.of(0, 6), -1);
        due("of: leaves, OUT", x.of(0, 7), -1);
        due("of: what 8", x.of(0, 8), NONE);
        due("of: what -1", x.of(0, -1), NONE);
        due("of: sitter -1", x.of(-1, 0), NONE);
        due("of: sitter 4", x.of(4, 0), NONE);
        x.seat(0, 4);
        x.seat(3, 8);
        due("of: seat", x.of(0, 4), 4);
        due("of: keeps without a law", x.of(0, 6), 0);
        due("of: leaves without a law", x.of(0, 7), 0);
        Check.rule(x, "keeps if tier = 1; leaves if nation = 2 and other = 0 - 1");
        due("of: keeps", x.of(0, 6), 1);
        due("of: keeps not", x.of(3, 6), 0);
        due("of: leaves not", x.of(0, 7), 0);
        due("of: leaves", x.of(3, 7), 1);
        due("of: parts, wish", x.of(3, 0) * 100 + x.of(3, 1) * 10 + x.of(3, 2), 123);
        Check.rule(x, "keeps if 1/0 = 0; leaves if 1 % 0 = 0; keeps if sitter = 0 and minute = 0");
        due("of: keeps by the second", x.of(0, 6), 1);
        due("of: keeps, broken", x.of(3, 6), 0);
        due("of: leaves, broken", x.of(3, 7), 0);
        Check.rule(x, "keeps");
        due("of: all keep", x.of(3, 6), 1);
    }

    // Promise 4
    private static void at() {
        SteamNations x = room(1, 0, 0, 1, 0, 0);
        x.seat(1, 8);
        x.seat(0, 0);
        due("at 8", x.at(8), 1);
        due("at 0", x.at(0), 0);
        due("at 1", x.at(1), NONE);
        due("at -1", x.at(-1), NONE);
        due("at 9", x.at(9), NONE);
        x.out(1);
        due("at 8 then", x.at(8), NONE);
        due("at -1, one is OUT", x.at(-1), NONE);
    }

    // Promise 5
    private static void asks() {
        int[][] beside = {{1, 3}, {0, 2, 4}, {1, 5}, {0, 4, 6}, {1, 3, 5, 7}, {2, 4, 8}, {3, 7}, {4, 6, 8}, {5, 7}};
        for (int a = 0; a < 9; a++) {
            for (int b = 0; b < 9; b++) {
                if (a != b) {
                    SteamNations x = room(1, 0, 0, 0, 0, 0);
                    x.seat(0, a);
                    x.seat(1, b);
                    int seat = b;
                    boolean are = java.util.Arrays.stream(beside[a]).anyMatch(s -> s == seat);
                    due("asks from " + a + " to " + b, x.asks(0, 1), are ? 1 : NONE);
                    x.pass();
                    due("passes from " + a + " to " + b, x.of(1, 0), are ? 1 : 0);
                }
            }
        }
        SteamNations x = room(7, 0, 0, 0, 5, 0, 0, 0, 3);
        x.seat(0, 3);
        x.seat(1, 4);
        due("asks: itself", x.asks(0, 0), NONE);
        due("asks: OUT", x.asks(0, 2), NONE);
        due("asks: OUT one", x.asks(2, 0), NONE);
        due("asks: none such", x.asks(0, 3), NONE);
        due("asks: none such one", x.asks(-1, 0), NONE);
        Check.rule(x, "passes 4; passes 10 if sitter = 1; passes 2 if other = 1 and much = 7 and wish = 0 and tier = 1");
        due("asks: the last that holds", x.asks(0, 1), 2);
        due("asks: beyond 9", x.asks(1, 0), 9);
        Check.rule(x, "passes 0 - 5 if nation = 1; passes 1/0; passes 3 if 1000*1000*1000+1 > 0");
        due("asks: below 0", x.asks(1, 0), 0);
        due("asks: none holds", x.asks(0, 1), 1);
        Check.rule(x, "passes mood + minute; keeps");
        x.terms(2, 4);
        x.terms(0, 3);
        due("asks: mood and minute, keeps or not", x.asks(0, 1), 7);
    }

    // Promise 6
    private static void terms() {
        SteamNations x = new SteamNations();
        int[] most = {999, 10, 9};
        int[] first = {0, 1, 0};
        for (int what = 0; what < 3; what++) {
            due("terms: first", x.terms(what, most[what]), first[what]);
            due("terms: too high", x.terms(what, most[what] + 1), -1);
            due("terms: below 0", x.terms(what, -1), -1);
            due("terms: what it was", x.terms(what, 0), most[what]);
            due("terms: count", x.count(12 + what), 0);
        }
        due("terms: what -1", x.terms(-1, 0), -1);
        due("terms: what 3", x.terms(3, 0), -1);
        due("terms: far", x.terms(LOW, HIGH), -1);
    }

    // Promises 7, 8
    private static void feedAndEnd() {
        SteamNations x = new SteamNations();
        due("end 0 of nothing", x.end(0), 0);
        due("end 1 of nothing", x.end(1), NONE);
        for (int i = 1; i <= 20; i++) {
            due("feed " + i, x.feed(0, 0, 0, 0, 0), 20 * i);
        }
        due("feed beyond 400", x.feed(0, 0, 0, 0, 0), NONE);
        due("bytes", x.count(5), 400);
        due("end -1", x.end(-1), NONE);
        due("end 401", x.end(401), NONE);
        due("end 381", x.end(381), 381);
        due("feed to 401", x.feed(0, 0, 0, 0, 0), NONE);
        due("end 380", x.end(380), 380);
        due("feed to 400", x.feed(0, 0, 0, 0, 0), 400);
        due("status aside", x.status(), 0);
        due("refused by -1 aside", x.count(6), 0);
        x.end(0);
        x.feed(0x01020300, 0x63000002, -1, 0x00000080, 0x00006300);
        due("the highest byte first", x.row(), 3);
        due("puffs of that", x.puffs(), 2);
        due("green of the first", x.of(0, 2), 3);
        due("red of the second", x.of(1, 0), 99);
        due("green of the third", x.of(2, 2), 99);
        x.feed(0x05000000, 0, 0, 0, 0);
        x.end(2);
        x.feed(0x07010000, 0, 0, 0, 0);
        x.end(4);
        x.row();
        due("behind the end", x.of(3, 0) * 100 + x.of(3, 2) * 10 + x.of(3, 3), 571);
    }

    // Promises 9, 10
    private static void rowAndPuffs() {
        SteamNations x = new SteamNations();
        due("row of nothing", x.row(), -6);
        Check.put(x, new byte[] {99, 0, 0, 2, 100, 0, 0, 0, 0, 100, 0, 0, 0, 0, 100, 0, 0, 0, 0, 3, -1, 0, 0, 0, 1, 2, 3});
        due("row", x.row(), 1);
        due("puffs", x.puffs(), 6);
        due("tape behind row", x.count(5), 0);
        due("row, refused", x.row(), -6);
        due("puffs stay", x.puffs(), 6);
        Check.put(x, new byte[] {1});
        due("row, one byte", x.row(), 0);
        due("puffs of one byte", x.puffs(), 1);
        Check.put(x, new byte[28]);
        due("row, no room", x.row(), 5);
        due("puffs, no room", x.puffs(), 2);
        due("sitters", x.count(0), 6);
        due("their seats", x.of(5, 4), NONE);
        Check.put(x, new byte[4]);
        due("row, all full", x.row(), 0);
        due("status of a row of puffs", x.status(), 0);
        due("puffs, all full", x.puffs(), 1);
    }

    // Promise 11
    private static void law() {
        Check.lawFault("", 0);
        Check.lawFault("   ", 3);
        Check.lawFault("keeps", NONE);
        Check.lawFault("  keeps  ", NONE);
        Check.lawFault("keeps;", 6);
        Check.lawFault("keeps ;  ", 9);
        Check.lawFault(";keeps", 0);
        Check.lawFault("keeps keeps", 6);
        Check.lawFault("keeps 1", 6);
        Check.lawFault("keepsif1=1", 0);
        Check.lawFault("keepsz", 0);
        Check.lawFault("akeeps", 0);
        Check.lawFault("keeps{", 5);
        Check.lawFault("keeps`", 5);
        Check.lawFault("Keeps", 0);
        Check.lawFault("passes 1:", 8);
        Check.lawFault("passes 9/0", NONE);
        Check.lawFault("keeps if1=1", NONE);
        Check.lawFault("passes3if1=1and2=2or3=3", NONE);
        Check.lawFault("passes3ifnot1=1", 7);
        Check.lawFault("leaves if not not(1<2or 2>1)", NONE);
        Check.lawFault("passes", 6);
        Check.lawFault("passes if", 7);
        Check.lawFault("passes -1", 7);
        Check.lawFault("passes (1)", 7);
        Check.lawFault("passes [1)", 9);
        Check.lawFault("passes [1", 9);
        Check.lawFault("passes 1]", 8);
        Check.lawFault("passes 1+", 9);
        Check.lawFault("passes 1+*2", 9);
        Check.lawFault("passes 1 2", 9);
        Check.lawFault("passes 1000", NONE);
        Check.lawFault("passes 1001", 7);
        Check.lawFault("passes 0000001000", NONE);
        Check.lawFault("passes 99999999999999999999", 7);
        Check.lawFault("passes done", 7);
        Check.lawFault("passes is 0", 7);
        Check.lawFault("passes much 0", 12);
        Check.lawFault("passes Much", 7);
        Check.lawFault("passes 1 times 2", 9);
        Check.lawFault("passes 1\n", 8);
        Check.lawFault("passes " + (char) 233, 7);
        Check.lawFault("keeps if", 8);
        Check.lawFault("keeps if tier", 13);
        Check.lawFault("keeps if (tier) = 1", 14);
        Check.lawFault("keeps if (tier = 1", 18);
        Check.lawFault("keeps if tier = 1)", 17);
        Check.lawFault("keeps if [tier = 1]", 15);
        Check.lawFault("keeps if tier = 1 = 1", 18);
        Check.lawFault("keeps if tier = 1 and", 21);
        Check.lawFault("keeps if tier = 1 or or", 21);
        Check.lawFault("keeps if tier = not 1", 16);
        Check.lawFault("keeps if (1=1)+1=1", 14);
        Check.lawFault("passes sitter+other-tier*nation/much%wish+minute+mood", NONE);
        Check.lawFault("seat 0 at 1", 0);
        Check.lawFault("pass", 0);
        limitsOfTexts();
        numbersOfLaws();
    }

    private static void limitsOfTexts() {
        Check.lawFault("keeps" + Check.times(";keeps", 11), NONE);
        Check.lawFault("keeps" + Check.times(";keeps", 12), 72);
        Check.lawFault("keeps" + Check.times(";keeps", 11) + "; ", 73);
        Check.lawFault("keeps" + Check.times(";keeps", 11) + " ; !", 74);
        Check.lawFault("passes 1" + Check.times("+1", 49), NONE);
        Check.lawFault("passes 1" + Check.times("+1", 50), 107);
        Check.lawFault("passes 1" + Check.times("+1", 49) + "+", 107);
        Check.lawFault("passes 1" + Check.times("+1", 49) + "+[[", 109);
        Check.lawFault("passes 1" + Check.times("+1", 47) + " if mood=1 and 1=1", 117);
        Check.lawFault("passes 1" + Check.times("+1", 23) + ";passes 1" + Check.times("+1", 25), NONE);
        Check.lawFault("passes 1" + Check.times("+1", 23) + ";passes 1" + Check.times("+1", 26), 114);
        Check.lawFault("passes " + Check.times("[", 8) + "1" + Check.times("]", 8), NONE);
        Check.lawFault("passes " + Check.times("[", 9) + "1" + Check.times("]", 9), 15);
        Check.lawFault("keeps if " + Check.times("(", 8) + "1=1" + Check.times(")", 8), NONE);
        Check.lawFault("keeps if " + Check.times("(", 9) + "1=1" + Check.times(")", 9), 17);
        Check.lawFault("keeps if " + Check.times("(", 5) + "[[[1]]]=[[[[1", 25);
        Check.lawFault("keeps if " + Check.times("[1]=[1] and ", 20) + "1=1", NONE);
        Check.lawFault("keeps if " + Check.times("not ", 90) + "1=1", NONE);
        Check.lawFault("keeps if " + Check.times("(1=1)or", 24) + "1=1", NONE);
    }

    private static void numbersOfLaws() {
        SteamNations x = new SteamNations();
        for (int i = 0; i < 6; i++) {
            due("law " + i, Check.law(x, "passes " + i), i);
        }
        due("wrong law, no room", Check.law(x, "passes"), -5);
        due("fault of one not read", x.fault(), NONE);
        due("tape behind that", x.count(5), 0);
        due("law of nothing, no room", x.law(), -5);
        due("laws", x.count(3), 6);
        SteamNations y = new SteamNations();
        Check.law(y, "pass");
        due("tape behind a wrong law", y.count(5), 0);
    }

    // Promise 12
    private static void orders() {
        Check.ordersFault("", 0);
        Check.ordersFault("  ", 2);
        Check.ordersFault("keeps", 0);
        Check.ordersFault("seat 0", 6);
        Check.ordersFault("seat at 1", 5);
        Check.ordersFault("seat 0 with 1", 7);
        Check.ordersFault("swap 0 at 1", 7);
        Check.ordersFault("out", 3);
        Check.ordersFault("out 0 at 1", 6);
        Check.ordersFault("pass 1", 5);
        Check.ordersFault("pass times", 10);
        Check.ordersFault("pass times 0", 11);
        Check.ordersFault("pass times 21", 11);
        Check.ordersFault("pass times done", 11);
        Check.ordersFault("pass if 1=1 times 2", 12);
        Check.ordersFault("pass times 2 times 2", 13);
        Check.ordersFault("out is 6", 7);
        Check.ordersFault("out much", 8);
        Check.ordersFault("out much done", 9);
        Check.ordersFault("out sitter", 4);
        Check.ordersFault("out mood", 4);
        Check.ordersFault("out 1001", 4);
        Check.ordersFault("pass" + Check.times(";pass", 12), 60);
        Check.ordersFault("pass if 1" + Check.times("+is 5", 49) + "=1", 255);
        SteamNations x = room(1, 0, 0);
        due("pass times 20", Check.orders(x, "pass times 20"), 20);
        due("minute", x.count(12), 20);
        due("12 clauses", Check.orders(x, "pass times 02" + Check.times(";pass", 11)), 13);
        due("50 parts, P and TIMES aside",
                Check.orders(x, "pass times 2 if 1" + Check.times("+is 5", 48) + "=0-47+[0]"), -6);
        due("fault of that", x.fault(), 17 + 240 + 3);
        due("49 and one", Check.orders(x, "pass times 2 if 1" + Check.times("+is 5", 48) + "<0"), 2);
        due("nothing run", Check.orders(x, "pass if 1=2"), 0);
        due("tape behind orders", x.count(5), 0);
    }

    private static void ordersWords() {
        SteamNations x = room(3, 1, 0, 0, 4, 0, 0, 0, 9);
        x.terms(0, 7);
        due("seat by sums", Check.orders(x, "seat 2-1 at minute-3; seat done-1 at done+inside+[pleased*5]"), 2);
        due("minute", x.of(1, 4), 4);
        due("done 1, inside 1, pleased 1", x.of(0, 4), 7);
        due("is, much", Check.orders(x, "seat 2 at is 2+much 0-1+is 5 if much 5=0-1 and is 1=1 and much 1=4"), 1);
        due("seat of that", x.of(2, 4), 3);
        due("latest", Check.orders(x, "out 1 if latest=0-1; seat 1 at latest+1 if latest=4; out 1; out 2; seat 2 at latest"), 5);
        due("latest's", x.of(2, 4), 3);
        due("latest is of this text", Check.orders(x, "pass if latest>0-1"), 0);
        due("times ask each time", Check.orders(x, "pass times 20 if minute<10"), 3);
        due("done", Check.orders(x, "pass times 9 if done<4; pass times 3 if done=4"), 5);
        due("broken is not run", Check.orders(x, "pass if 1/0=1; pass if not 1/0=1; pass if 1%0=0"), 0);
        due("or, and ask no more than matters", Check.orders(x, "pass if 1=1 or 1/0=1; pass if not (1=2 and 1/0=1)"), 2);
        due("broken ahead", Check.orders(x, "pass if 1/0=1 or 1=1; pass if 1/0=1 and 1=2 or 1=1"), 0);
        due("broken behind, it matters", Check.orders(x, "pass if 1=2 or 1/0=1; pass if not (1=1 and 1/0=1)"), 0);
        due("beyond", Check.orders(x, "pass if 1000*1000*1000=1000*1000*1000; pass if 1000*1000*1000+1>0; pass if 0-1000*1000*1000-1<0"), 1);
        due("not beyond", Check.orders(x, "pass if 0-1000*1000*1000<0 and 0-1000*1000*1000=0-999*1000*1000-1000*1000"), 1);
        due("beyond on the way", Check.orders(x, "pass if 1000*1000*1000*2/4>0; pass if 1000*1000*1000+1-1>0"), 0);
        due("cut towards 0", Check.orders(x, "pass if [0-7]/2=0-3; pass if [0-7]%2=0-1; pass if 7/[0-2]=0-3; pass if 7%[0-2]=1"), 4);
        due("from the left", Check.orders(x, "pass if 9-3-2=4; pass if 100/10*2=20; pass if 2+3*4=14; pass if [2+3]*4=20"), 4);
        due("and ahead of or", Check.orders(x, "pass if 1=1 or 1=1 and 1=2; pass if (1=1 or 1=1) and 1=2; pass if not 1=2 or 1=1"), 2);
    }

    private static void ordersWhollyOrNot() {
        String[] stops = {"seat 0 at 9", "seat 2 at 0", "seat 1 at 4", "seat 0 at 0-1", "out 1", "out 5", "swap 0 with 0",
            "swap 0 with 1", "swap 0 with 5", "seat 1/0 at 1", "seat 1 at 1/0", "out 1000*1000*1000*2", "swap 0 with 5%0",
            "pass times 2"};
        for (String stop : stops) {
            SteamNations x = room(3, 1, 0, 0, 4, 0);
            x.seat(0, 4);
            x.terms(0, 997);
            x.seat(0, 3);
            due("refused: " + stop, Check.orders(x, "seat 0 at 4;pass;" + stop), -3);
            due("stopped: " + stop, x.stopped(), 2);
            due("fault: " + stop, x.fault(), NONE);
            due("status: " + stop, x.status(), -3);
            due("seat: " + stop, x.of(0, 4), 3);
            due("minute: " + stop, x.count(12), 997);
            due("undone: " + stop, x.count(4), 1);
            due("refused by -3: " + stop, x.count(8), 1);
            due("refused by -1, -2: " + stop, x.count(6) + x.count(7), 0);
        }
        SteamNations x = room(3, 1, 0, 0, 4, 0);
        x.seat(0, 0);
        x.swap(0, 1);
        due("far orders", Check.orders(x, "seat 1 at 1; pass times 20; out 1; pass times 9; out 1"), -3);
        due("stopped", x.stopped(), 4);
        due("seat", x.of(1, 4), NONE);
        due("parts", x.of(0, 0) * 10 + x.of(0, 1), 31);
        due("undo as ahead", x.undo(), 0);
        due("and no more", x.undo(), -3);
    }

    // Promises 13, 14
    private static void faultAndStopped() {
        SteamNations x = room(1, 0, 0);
        Check.law(x, "keeps if");
        due("fault", x.fault(), 8);
        Check.orders(x, "pass");
        due("fault of the latest", x.fault(), NONE);
        Check.orders(x, "pass out");
        due("fault of orders", x.fault(), 5);
        Check.law(x, "keeps");
        due("fault of a law", x.fault(), NONE);
        Check.orders(x, "out 0");
        due("stopped 0", x.stopped(), 0);
        Check.law(x, "keeps");
        due("stopped stays behind law()", x.stopped(), 0);
        Check.orders(x, "pass");
        due("stopped, it could be", x.stopped(), NONE);
        Check.orders(x, "pass; out 0 if 1=2; out 0");
        due("stopped 2", x.stopped(), 2);
        Check.orders(x, "x");
        due("stopped, not read", x.stopped(), NONE);
        due("fault then", x.fault(), 0);
    }

    // Promise 15
    private static void force() {
        SteamNations x = new SteamNations();
        due("force 0 of none", x.force(0), -2);
        due("force NONE", x.force(NONE), NONE);
        due("status of that", x.status(), 0);
        Check.law(x, "passes 2");
        Check.law(x, "passes 3");
        due("a law is not in force by itself", x.count(11), NONE);
        due("force 1", x.force(1), NONE);
        due("force 2", x.force(2), -2);
        due("force -2", x.force(-2), -2);
        due("in force", x.count(11), 1);
        due("force 0", x.force(0), 1);
        due("force NONE then", x.force(NONE), 0);
        due("in force then", x.count(11), NONE);
        due("refused by -2", x.count(7), 3);
        due("refused by -1", x.count(6), 0);
    }

    // Promise 16
    private static void seat() {
        SteamNations x = room(1, 0, 0, 1, 0, 0);
        due("seat", x.seat(0, 0), 1);
        due("seat taken", x.seat(1, 0), -3);
        due("its own seat", x.seat(0, 0), -3);
        due("seat 9", x.seat(0, 9), -1);
        due("seat -1", x.seat(0, -1), -1);
        due("seat 9 of nobody", x.seat(2, 9), -1);
        due("seat of nobody", x.seat(2, 0), -2);
        due("seat of -1", x.seat(-1, 1), -2);
        due("seat 8", x.seat(1, 8), 2);
        due("another seat", x.seat(0, 4), 2);
        due("at 4", x.at(4), 0);
        due("at 0", x.at(0), NONE);
    }

    // Promise 17
    private static void out() {
        SteamNations x = room(1, 0, 0, 1, 0, 0);
        x.seat(0, 5);
        due("out", x.out(0), 5);
        due("out again", x.out(0), -3);
        due("out of 2", x.out(2), -2);
        due("out of -1", x.out(-1), -2);
        due("its seat", x.of(0, 4), NONE);
    }

    // Promise 18
    private static void swap() {
        SteamNations x = room(1, 0, 0, 1, 0, 0, 1, 0, 0);
        x.seat(0, 0);
        x.seat(1, 8);
        due("swap", x.swap(0, 1), 8);
        due("the other", x.of(1, 4), 0);
        due("swap with itself", x.swap(1, 1), -1);
        due("nobody with itself", x.swap(7, 7), -1);
        due("swap with OUT", x.swap(0, 2), -3);
        due("OUT swaps", x.swap(2, 0), -3);
        due("swap with nobody", x.swap(2, 3), -2);
        due("nobody swaps", x.swap(-1, 0), -2);
    }

    // Promise 19
    private static void pass() {
        SteamNations x = room(3, 0, 0, 0, 9, 0, 0, 0, 2, 5, 5, 5);
        x.seat(0, 4);
        x.seat(1, 1);
        x.seat(2, 7);
        Check.rule(x, "passes 2");
        due("pass", x.pass(), 1);
        // 0 has three reds: two to seat 1, the last to seat 7, as long as it has such.
        due("0 red", x.of(0, 0), 0);
        due("0 blue", x.of(0, 1), 2);
        due("0 green", x.of(0, 2), 2);
        due("1", x.of(1, 0) * 100 + x.of(1, 1) * 10 + x.of(1, 2), 270);
        due("2", x.of(2, 0) * 100 + x.of(2, 1) * 10 + x.of(2, 2), 100);
        due("OUT one", x.of(3, 0) * 100 + x.of(3, 1) * 10 + x.of(3, 2), 555);
        SteamNations y = room(9, 0, 0, 0, 9, 0, 0, 0, 9);
        y.seat(0, 0);
        y.seat(1, 1);
        y.seat(2, 2);
        Check.rule(y, "keeps if nation = 1; passes 5 if other = 1; leaves if minute = 0 and nation = 0 and much = 4 or much = 9 and minute = 1");
        y.pass();
        due("keeps", y.of(1, 1), 9);
        due("passed to it", y.of(1, 0) * 10 + y.of(1, 2), 55);
        due("left as it was then, minute as ahead", y.of(0, 4), NONE);
        due("stays", y.of(1, 4) * 10 + y.of(2, 4), 12);
        y.pass();
        due("leaves by the minute ahead", y.of(1, 4), NONE);
        due("minute", y.count(12), 2);
        y.terms(0, 998);
        due("to 999", y.pass(), 999);
        due("beyond 999", y.pass(), -3);
        due("stays 999", y.count(12), 999);
    }

    // Promise 20
    private static void undo() {
        SteamNations x = room(9, 0, 0, 0, 5, 0);
        due("nothing", x.undo(), -3);
        x.seat(0, 0);
        x.seat(1, 1);
        x.pass();
        x.swap(0, 1);
        x.out(0);
        Check.law(x, "passes 3");
        x.force(0);
        x.seen(0, 0, 0);
        due("kept", x.count(4), 5);
        due("undo out", x.undo(), 1);
        due("its seat", x.of(0, 4), 1);
        due("undo swap", x.undo(), 2);
        due("its seat", x.of(0, 4), 0);
        due("undo pass", x.undo(), 3);
        due("parts", x.of(0, 0) * 10 + x.of(1, 1), 95);
        due("minute", x.count(12), 0);
        due("the law stays in force", x.count(11), 0);
        due("seen stays", x.count(2), 1);
        due("undo seat", x.undo(), 0);
        due("left", x.count(4), 1);
        x.sitter(100, 0, 0, 0);
        x.terms(3, 0);
        x.row();
        due("refused ones keep it", x.count(4), 1);
        x.sitter(1, 0, 0, 0);
        due("behind sitter", x.undo(), -3);
        x.seat(2, 4);
        x.terms(2, 0);
        due("behind terms", x.undo(), -3);
        x.seat(2, 5);
        Check.put(x, new byte[] {100});
        x.row();
        due("behind a row of puffs", x.undo(), -3);
        for (int i = 0; i < 20; i++) {
            x.pass();
        }
        due("16 are kept", x.count(4), 16);
        for (int i = 0; i < 16; i++) {
            due("undo pass", x.undo(), 3);
        }
        due("no 17th", x.undo(), -3);
        due("minute", x.count(12), 4);
    }

    // Promise 21
    private static void later() {
        SteamNations x = room(10, 4, 0, 3, 9, 1, 0, 0, 5);
        x.seat(0, 0);
        x.seat(1, 1);
        due("later 0", x.later(0, 0, 0), 10);
        due("later 1 blue", x.later(0, 1, 1), 5);
        due("later 3 is", x.later(1, 3, 3), 0);
        due("later of one OUT", x.later(2, 60, 2), 5);
        due("later 61", x.later(0, 61, 0), NONE);
        due("later -1", x.later(0, -1, 0), NONE);
        due("later what 4", x.later(0, 0, 4), NONE);
        due("later what -1", x.later(0, 0, -1), NONE);
        due("later of nobody", x.later(3, 0, 0), NONE);
        due("later of -1", x.later(-1, 0, 0), NONE);
        due("on paper", x.of(0, 0) + x.count(12), 10);
        x.terms(0, 999);
        Check.rule(x, "passes 0; passes 4 if minute = 1000+1");
        due("beyond 999", x.later(0, 2, 0), 10);
        due("at 1001", x.later(0, 3, 0), 6);
    }

    // Promise 22
    private static void when() {
        SteamNations x = room(10, 4, 0, 3, 9, 1, 0, 0, 5);
        x.seat(0, 0);
        x.seat(1, 1);
        due("when it is", x.when(1, 1), 0);
        due("when it will be", x.when(1, 0), 3);
        due("when never", x.when(2, 0), NONE);
        due("when nation 3", x.when(0, 3), NONE);
        due("when nation -1", x.when(0, -1), NONE);
        due("when of nobody", x.when(3, 0), NONE);
        SteamNations y = room(99, 0, 0, 0, 60, 0);
        y.seat(0, 0);
        y.seat(1, 1);
        Check.rule(y, "passes 0; passes 1 if nation = 0; keeps if nation = 1");
        due("at 60", y.when(1, 0), 60);
        Check.rule(y, "passes 0; passes 1 if nation = 0 and minute > 0; keeps if nation = 1");
        due("at 61", y.when(1, 0), NONE);
    }

    // Promise 23
    private static void one() {
        SteamNations x = room(10, 4, 0, 3, 9, 1, 0, 0, 5);
        due("nobody", x.one(), 0);
        x.seat(0, 0);
        due("one alone", x.one(), 0);
        x.seat(1, 1);
        due("in three", x.one(), 3);
        x.seat(2, 8);
        due("never", x.one(), NONE);
        Check.rule(x, "leaves if nation = 2 and minute = 4");
        due("when one has left", x.one(), 5);
        SteamNations y = room(99, 0, 0, 0, 60, 0);
        y.seat(0, 0);
        y.seat(1, 1);
        Check.rule(y, "passes 0; passes 1 if nation = 0; keeps if nation = 1");
        due("at 60", y.one(), 60);
        y.terms(0, 999);
        due("at 60, beyond 999", y.one(), 60);
        Check.rule(y, "passes 0; passes 1 if nation = 0 and minute > 999; keeps if nation = 1");
        due("at 61", y.one(), NONE);
    }

    // Promise 24
    private static void pleased() {
        SteamNations x = new SteamNations();
        x.sitter(9, 8, 0, 1);
        x.sitter(0, 5, 0, 1);
        x.sitter(7, 0, 0, 0);
        x.sitter(0, 0, 1, 2);
        x.seat(0, 0);
        x.seat(1, 2);
        x.seat(2, 1);
        // 0 wishes to be blue: it is, one minute on, where it gives a red away or gets a blue of 1.
        due("none yet", x.pleased(0, 0), 3);
        due("the first row", x.pleased(0, 1) * 100 + x.pleased(0, 2) * 10 + x.pleased(0, 3), 12);
        due("OUT", x.pleased(0, 4), NONE);
        due("no such", x.pleased(0, 5), NONE);
        due("what -1", x.pleased(0, -1), NONE);
        due("n 10", x.pleased(10, 0), NONE);
        due("n -1", x.pleased(-1, 0), NONE);
        due("behind 1: all", x.pleased(1, 0), 4);
        due("the first row behind 1", x.pleased(1, 1) * 100 + x.pleased(1, 2) * 10 + x.pleased(1, 3), 12);
        due("on paper", x.of(1, 4), 2);
        Check.rule(x, "passes 9 if tier = 0; leaves if sitter = 0");
        due("seats of the row, not of then", x.pleased(2, 1), 0);
        SteamNations y = new SteamNations();
        due("nobody", y.pleased(9, 0), 0);
        y.sitter(0, 0, 0, 0);
        y.sitter(0, 0, 0, 2);
        due("all OUT", y.pleased(9, 0), 1);
        SteamNations z = new SteamNations();
        z.sitter(0, 5, 0, 0);
        z.sitter(5, 0, 0, 0);
        z.seat(0, 3);
        z.seat(1, 8);
        Check.rule(z, "passes 0");
        due("row of alike ones", z.pleased(3, 1) * 10 + z.pleased(3, 2), 38);
        z.swap(0, 1);
        due("the first as a row, then too", z.pleased(3, 1) * 10 + z.pleased(3, 2), 38);
    }

    // Promise 25
    private static void exchanges() {
        SteamNations x = new SteamNations();
        due("nobody", x.exchanges(0, 0), 0);
        due("none needed", x.exchanges(0, 1), NONE);
        // 1 wishes to be red: it is, one minute on, beside 0; between them sits 2.
        x.sitter(9, 0, 0, 0);
        x.sitter(0, 1, 0, 0);
        x.sitter(0, 0, 30, 2);
        x.seat(0, 0);
        x.seat(2, 1);
        x.seat(1, 2);
        Check.rule(x, "passes 0; passes 2 if nation = 0 and other = 1");
        due("one", x.exchanges(1, 0), 1);
        due("the first two", x.exchanges(1, 1), 2);
        due("behind 0: none", x.exchanges(0, 0), 0);
        due("behind 0: none needed", x.exchanges(0, 1), NONE);
        due("what 2", x.exchanges(0, 2), NONE);
        due("what -1", x.exchanges(0, -1), NONE);
        due("what 2, one is needed", x.exchanges(1, 2), NONE);
        due("what -1, one is needed", x.exchanges(1, -1), NONE);
        due("n 10", x.exchanges(10, 0), NONE);
        due("n -1", x.exchanges(-1, 1), NONE);
        due("on paper", x.of(2, 4), 1);
        x.seat(1, 4);
        x.swap(0, 1);
        x.swap(1, 2);
        due("it stands", x.exchanges(1, 0), 0);
        x.seat(0, 8);
        due("it can't come about", x.exchanges(1, 0), NONE);
        due("nor its first two", x.exchanges(1, 1), NONE);
        SteamNations y = new SteamNations();
        y.sitter(0, 3, 0, 0);
        y.sitter(0, 0, 3, 0);
        y.sitter(5, 0, 0, 0);
        y.sitter(0, 9, 0, 1);
        // 2 must get to seat 6, where it passes four reds up to 0: first past 3, then past 0.
        y.seat(2, 0);
        y.seat(3, 3);
        y.seat(0, 6);
        y.seat(1, 7);
        Check.rule(y, "passes 0; passes 4 if sitter = 2 and tier = 2");
        due("two exchanges", y.exchanges(1, 0), 2);
        due("its first two", y.exchanges(1, 1), 23);
    }

    // Promises 26, 27
    private static void seenAndForget() {
        SteamNations x = room(1, 0, 0, 0, 1, 0);
        due("n 10", x.seen(0, 10, 0), -1);
        due("n -1", x.seen(0, -1, 0), -1);
        due("nation 3", x.seen(0, 0, 3), -1);
        due("nation -1", x.seen(0, 0, -1), -1);
        due("wrong and nobody", x.seen(2, 0, 3), -1);
        due("nobody", x.seen(2, 0, 0), -2);
        due("sitter -1", x.seen(-1, 0, 0), -2);
        for (int i = 1; i <= 6; i++) {
            due("seen " + i, x.seen(0, 9, 0), i);
        }
        due("no room", x.seen(0, 0, 0), -5);
        due("nobody, no room", x.seen(2, 0, 0), -2);
        due("seen", x.count(2), 6);
        due("forget", x.forget(), 6);
        due("status as it was", x.status(), -2);
        due("forget again", x.forget(), 0);
        due("seen then", x.count(2), 0);
        due("seen anew", x.seen(1, 0, 1), 1);
    }

    // Promise 28
    private static void sat() {
        SteamNations x = room(9, 0, 0, 0, 1, 0, 0, 0, 30, 0, 0, 1);
        due("all OUT: one seating", x.sat(NONE, 0), 1);
        due("in it", x.sat(0, 0), NONE);
        x.seat(0, 0);
        x.seat(1, 2);
        x.seat(2, 1);
        Check.rule(x, "passes 0; passes 2 if nation = 0 and other = 1");
        due("all", x.sat(NONE, 9), 6);
        due("row 5", x.sat(5, 0) * 100 + x.sat(5, 1) * 10 + x.sat(5, 2), 210);
        due("OUT", x.sat(5, 3), NONE);
        due("row 6", x.sat(6, 0), NONE);
        due("row -2", x.sat(-2, 0), NONE);
        due("nobody", x.sat(0, 4), NONE);
        due("sitter -1", x.sat(0, -1), NONE);
        x.seen(1, 1, 0);
        // It was beside red: green was at an end of the row.
        due("four", x.sat(NONE, 0), 4);
        int[][] rows = {{0, 1, 2}, {1, 0, 2}, {1, 2, 0}, {2, 1, 0}};
        for (int i = 0; i < 4; i++) {
            for (int p = 0; p < 3; p++) {
                due("row " + i + " of " + p, x.sat(i, p), rows[i][p]);
            }
        }
        due("row 4", x.sat(4, 0), NONE);
        x.seen(1, 0, 1);
        due("so it was", x.sat(NONE, 0), 4);
        x.seen(3, 9, 2);
        due("OUT, seen", x.sat(NONE, 0), 4);
        x.seen(1, 1, 1);
        due("both can't be", x.sat(NONE, 0), 0);
        due("in none", x.sat(0, 0), NONE);
    }

    // Promise 29
    private static void ask() {
        SteamNations x = new SteamNations();
        due("no sitters", x.ask(0, 0), NONE);
        due("no sitters, left", x.ask(0, 1), NONE);
        x = room(9, 0, 0, 0, 1, 0, 0, 0, 30);
        x.seat(0, 0);
        x.seat(1, 2);
        x.seat(2, 1);
        Check.rule(x, "passes 0; passes 2 if nation = 0 and other = 1");
        due("at once: the lowest", x.ask(0, 0), 0);
        due("at once: all are left", x.ask(0, 1), 6);
        due("whom", x.ask(1, 0), 1);
        due("left at most", x.ask(1, 1), 4);
        due("n 10", x.ask(10, 0), NONE);
        due("n -1", x.ask(-1, 0), NONE);
        due("what 2", x.ask(1, 2), NONE);
        due("what -1", x.ask(1, -1), NONE);
        x.seen(1, 1, 1);
        due("one is known", x.ask(1, 0), 0);
        due("two are left", x.ask(1, 1), 2);
        x.seen(1, 1, 0);
        due("no seatings", x.ask(1, 0), NONE);
        due("no seatings, left", x.ask(1, 1), NONE);
    }

    // Promise 30
    private static void treaty() {
        SteamNations x = new SteamNations();
        due("nobody", x.treaty(1, 0), 0);
        due("nobody's bits", x.treaty(99, 1), 0);
        x = room(9, 0, 0, 2, 2, 2, 0, 9, 9, 0, 3, 3, 5, 5, 5);
        // In common: 0-1 2, 0-4 5, 1-2 4, 1-3 4, 1-4 6, 2-3 6, 2-4 10, 3-4 6.
        due("4", x.treaty(4, 0), 4);
        due("4: who", x.treaty(4, 1), 2 + 4 + 8 + 16);
        due("5", x.treaty(5, 0), 3);
        due("5: who", x.treaty(5, 1), 4 + 8 + 16);
        due("6", x.treaty(6, 0), 3);
        due("7", x.treaty(7, 1), 4 + 16);
        due("11", x.treaty(11, 0), 1);
        due("11: the lowest", x.treaty(11, 1), 1);
        due("k 0", x.treaty(0, 0), NONE);
        due("k 99", x.treaty(99, 1), 1);
        due("k 100", x.treaty(100, 0), NONE);
        due("what 2", x.treaty(1, 2), NONE);
        due("what -1", x.treaty(1, -1), NONE);
        SteamNations y = room(3, 0, 0, 0, 3, 0, 0, 3, 0, 3, 0, 0);
        due("the lowest of alike ones", y.treaty(3, 1), 6);
    }

    // Promise 31
    private static void drop() {
        SteamNations x = room(1, 0, 0, 1, 0, 0, 1, 0, 0, 1, 0, 0);
        x.seat(0, 0);
        x.seat(1, 1);
        x.seat(2, 2);
        due("itself", x.drop(0, 0, 0), 1000000);
        due("another", x.drop(0, 0, 1), 0);
        due("1", x.drop(1, 1, 1), 800000);
        due("2: the middle", x.drop(0, 2, 1), 170000);
        due("2: the end", x.drop(0, 2, 2), 10000);
        due("2: the first", x.drop(0, 2, 0), 820000);
        // Then 82000 of it go, 17000 come back; and so on, each tenth cut.
        due("3", x.drop(0, 3, 0), 755000);
        due("4", x.drop(0, 4, 2), 10000 - 1000 + 17000 - 2600 + 21900);
        due("OUT", x.drop(0, 1, 3), NONE);
        due("of one OUT", x.drop(3, 1, 0), NONE);
        due("nobody", x.drop(0, 1, 4), NONE);
        due("sitter -1", x.drop(-1, 1, 0), NONE);
        due("n 61", x.drop(0, 61, 0), NONE);
        due("n -1", x.drop(0, -1, 0), NONE);
        due("all of it at 60", x.drop(0, 60, 0) + x.drop(0, 60, 1) + x.drop(0, 60, 2), 1000000);
        Check.rule(x, "keeps; leaves");
        due("whatever the law", x.drop(1, 1, 1), 800000);
        dropAlongSix();
        SteamNations y = room(1, 0, 0, 1, 0, 0);
        y.seat(0, 0);
        y.seat(1, 1);
        int had = 1000000;
        int other = 0;
        for (int n = 1; n <= 60; n++) {
            int gives = had / 10;
            int gets = other / 10;
            had += gets - gives;
            other += gives - gets;
            due("cut, " + n, y.drop(0, n, 1), other);
        }
    }

    /** Six in a line around the room: the last ones get few, down to a tenth of ten. */
    private static void dropAlongSix() {
        SteamNations x = room(1, 0, 0, 1, 0, 0, 1, 0, 0, 1, 0, 0, 1, 0, 0, 1, 0, 0);
        int[] seats = {0, 1, 2, 5, 8, 7};
        long[] has = {0, 1000000, 0, 0, 0, 0, 0, 0};
        for (int p = 0; p < 6; p++) {
            x.seat(p, seats[p]);
        }
        for (int n = 0; n <= 60; n++) {
            long[] next = new long[8];
            for (int p = 1; p <= 6; p++) {
                due("line, " + n, x.drop(0, n, p - 1), has[p]);
                long kept = has[p] - (p > 1 ? has[p] / 10 : 0) - (p < 6 ? has[p] / 10 : 0);
                next[p] = kept + has[p - 1] / 10 + has[p + 1] / 10;
            }
            has = next;
        }
    }

    // Promise 32
    private static void few() {
        SteamNations x = new SteamNations();
        due("few 1 of 1", x.few(1, 1), 900000000000L);
        due("few 2 of 1", x.few(2, 1), 1000000000000L);
        due("few 1 of 3", x.few(1, 3), 729000000000L);
        due("few 2 of 3", x.few(2, 3), 972000000000L);
        due("few 3 of 3", x.few(3, 3), 999000000000L);
        due("few 20 of 0", x.few(20, 0), 1000000000000L);
        due("k 0", x.few(0, 0), NONE);
        due("k 21", x.few(21, 0), NONE);
        due("n -1", x.few(1, -1), NONE);
        due("n 100", x.few(1, 100), NONE);
        x.terms(1, 0);
        due("none faints", x.few(1, 99), 1000000000000L);
        x.terms(1, 10);
        due("all faint", x.few(20, 19), 1000000000000L);
        due("all faint, too many", x.few(20, 20), 0);
        x.terms(1, 7);
        due("0.3 to the 12th", x.few(1, 12), 531441L);
        due("0.3 to the 13th, cut", x.few(1, 13), 159432L);
        due("0.3 to the 14th, cut", x.few(1, 14), 47829L);
        // At 13 fainting once: 13 of 0.7 times 0.3 to the 12th is 4836113.1, cut twice on the way.
        due("each part is cut", x.few(2, 13), 159432L + (14880348L * 3 / 10 + 531441L * 7 / 10));
    }

    // Promise 33
    private static void compare() {
        SteamNations x = new SteamNations();
        x.sitter(9, 8, 0, 1);
        x.sitter(0, 9, 0, 1);
        x.sitter(0, 0, 1, 0);
        x.seat(0, 0);
        x.seat(1, 1);
        Check.law(x, "passes 0");
        Check.law(x, "passes 9; keeps if nation = 1");
        due("now", x.compare(NONE, 0), 1);
        due("none, 1 on", x.compare(NONE, 1), 2);
        due("law 0", x.compare(0, 60), 1);
        due("law 1", x.compare(1, 1), 1);
        x.force(0);
        due("in place of that in force", x.compare(NONE, 1), 2);
        due("law 2", x.compare(2, 0), NONE);
        due("law -2", x.compare(-2, 0), NONE);
        due("n 61", x.compare(0, 61), NONE);
        due("n -1", x.compare(0, -1), NONE);
        due("in force as it was", x.count(11), 0);
        due("on paper", x.count(12), 0);
    }

    // Promises 34, 35
    private static void mornings() {
        SteamNations x = new SteamNations();
        due("no sitters", x.mornings(0, 1), -3);
        due("no sitters, wrong", x.mornings(-1, 1), -1);
        x.sitter(9, 0, 0, 0);
        x.sitter(0, 5, 0, 1);
        due("seed -1", x.mornings(-1, 1), -1);
        due("seed beyond", x.mornings(1000001, 1), -1);
        due("n 0", x.mornings(0, 0), -1);
        due("n 61", x.mornings(0, 61), -1);
        due("none yet", x.drawn(0, 0), NONE);
        // Seed 1: 13448 (sitter 0), 845447 (seat 5), 537590 (2: nothing); then 972339 (1), 499046 (5), 458433 (0: seated).
        due("seed 1", x.mornings(1, 1), 2);
        due("nothing", x.drawn(0, 3), NONE);
        due("two", x.mornings(1, 2), 2);
        due("seated", x.drawn(1, 3), 5);
        due("not so in the room", x.of(1, 4), NONE);
        due("minute as it was", x.count(12), 0);
        x.seat(0, 5);
        due("taken", x.mornings(1, 2), 2);
        due("it could not be", x.drawn(1, 3), NONE);
        x.seat(0, 4);
        due("beside", x.mornings(1, 2), 2);
        due("passed", x.drawn(1, 0) * 100 + x.drawn(1, 1) * 10 + x.drawn(0, 0), 148);
        due("what 4", x.drawn(0, 4), NONE);
        due("what -1", x.drawn(0, -1), NONE);
        due("nobody", x.drawn(2, 0), NONE);
        due("sitter -1", x.drawn(-1, 0), NONE);
        due("refused", x.mornings(0, 0), -1);
        due("the latest stays", x.drawn(1, 3), 5);
        x.sitter(0, 0, 1, 2);
        due("one who came since", x.drawn(2, 0), NONE);
        due("seed 1000000", x.mornings(1000000, 60) >= 0 ? 1 : 0, 1);
        due("then it is there", x.drawn(2, 2) >= 0 ? 1 : 0, 1);
        SteamNations y = new SteamNations();
        y.sitter(9, 0, 0, 0);
        y.seat(0, 8);
        y.terms(0, 999);
        y.mornings(5, 60);
        due("at 999 it ends", y.drawn(0, 3), 8);
        SteamNations z = new SteamNations();
        z.sitter(9, 0, 0, 0);
        z.seat(0, 8);
        // Seed 3: 15654 (sitter 0), 278656, 368992 (1: out).
        z.mornings(3, 1);
        due("sent out", z.drawn(0, 3), NONE);
    }

    // Promises 36, 37
    private static void imageAndBack() {
        SteamNations x = room(9, 0, 0, 0, 5, 0);
        due("image -1", x.image(-1), -1);
        due("image 2", x.image(2), -1);
        due("back -1", x.back(-1), -1);
        due("back 2", x.back(2), -1);
        due("back 0", x.back(0), -2);
        x.seat(0, 0);
        x.seat(1, 1);
        Check.law(x, "passes 2");
        x.force(0);
        x.seen(0, 3, 0);
        x.terms(1, 4);
        x.terms(2, 5);
        x.pass();
        due("image 0", x.image(0), 0);
        due("what can be undone stays", x.count(4), 1);
        due("back 1", x.back(1), -2);
        x.pass();
        x.sitter(0, 0, 3, 1);
        x.seat(2, 2);
        x.out(0);
        Check.law(x, "passes 3");
        x.force(1);
        x.seen(2, 3, 0);
        x.terms(0, 77);
        x.terms(1, 9);
        x.terms(2, 9);
        x.mornings(2, 1);
        x.image(1);
        Check.put(x, new byte[] {1, 1, 1, 1, 2});
        x.row();
        Check.law(x, "x");
        Check.orders(x, "pass; out 0");
        x.feed(1, 2, 3, 4, 5);
        int refusedBy2 = x.count(7);
        due("back 0", x.back(0), 0);
        int[] counts = {2, 2, 1, 1, 0, 20};
        for (int what = 0; what < counts.length; what++) {
            due("back: count(" + what + ")", x.count(what), counts[what]);
        }
        due("refusals stay", x.count(7), refusedBy2);
        due("back: force", x.count(11), 0);
        due("back: terms", x.count(12) * 100 + x.count(13) * 10 + x.count(14), 145);
        due("back: parts", x.of(0, 0) * 1000 + x.of(0, 1) * 100 + x.of(1, 0) * 10 + x.of(1, 1), 7223);
        due("back: seats", x.of(0, 4) * 10 + x.of(1, 4), 1);
        due("back: no such sitter", x.of(2, 0), NONE);
        due("nothing can be undone", x.undo(), -3);
        due("puffs stay", x.puffs(), 1);
        due("fault stays", x.fault(), NONE);
        due("stopped stays", x.stopped(), 1);
        due("the latest mornings stay", x.drawn(2, 2), 3);
        due("another law 1", Check.law(x, "passes 7"), 1);
        x.force(1);
        due("it is told", x.asks(0, 1), 7);
        due("back 1", x.back(1), 0);
        due("sitters", x.count(0), 3);
        due("seen", x.count(2), 2);
        due("the law of that image", x.asks(1, 2), 3);
        due("minute", x.count(12), 77);
        due("back 0 again", x.back(0), 0);
        due("images stay", x.count(0), 2);
    }

    private static void lawsAndSightsOfImages() {
        SteamNations x = room(9, 0, 0, 0, 5, 0);
        x.seat(0, 0);
        x.seat(1, 1);
        x.seen(0, 0, 0);
        x.image(0);
        Check.rule(x, "passes 4");
        x.forget();
        x.seen(0, 0, 1);
        x.image(1);
        due("seen otherwise", x.sat(NONE, 0), 0);
        x.back(0);
        due("no law in force", x.asks(0, 1), 1);
        due("seen as it was", x.sat(NONE, 0), 2);
        Check.rule(x, "passes 6");
        due("another law 0", x.asks(0, 1), 6);
        x.back(1);
        due("law 0 as it was", x.asks(0, 1), 4);
        due("seen as it was then", x.sat(NONE, 0), 0);
        x.seat(0, 3);
        x.back(0);
        due("undone, behind back()", x.count(4), 0);
    }

    /** What is told of seatings is of now, whatever was told of them ahead. */
    private static void seatingsOfNow() {
        SteamNations x = new SteamNations();
        x.sitter(9, 8, 0, 1);
        x.sitter(0, 9, 0, 1);
        Check.law(x, "passes 0; passes 9 if mood = 1 and nation = 1");
        x.force(0);
        due("OUT", x.pleased(1, 0), 1);
        x.seat(0, 0);
        x.seat(1, 1);
        due("seated", x.pleased(1, 2), 1);
        due("mood 0", x.pleased(1, 0), 1);
        due("terms tell 0", x.terms(2, 1), 0);
        due("mood 1: 1 gives all, and is red", x.pleased(1, 0), 1);
        due("mood 1: 0 is blue", x.seen(0, 1, 1), 1);
        due("sat so", x.sat(NONE, 0), 2);
        x.force(NONE);
        due("without: both are blue", x.pleased(1, 0), 2);
        x.seat(1, 4);
        due("beside no more", x.pleased(1, 0), 1);
        due("undo tells 0", x.undo(), 0);
        due("beside again", x.pleased(1, 0), 2);
        x.out(1);
        due("OUT again", x.pleased(1, 2), NONE);
        x.image(0);
        due("orders", Check.orders(x, "seat 1 at 3"), 1);
        due("beside by orders", x.pleased(1, 0), 2);
        due("back tells 0", x.back(0), 0);
        due("OUT as it was", x.pleased(1, 0), 1);
        due("seated by calls", x.seat(1, 3), 2);
        due("beside by calls", x.pleased(1, 0), 2);
        x.pass();
        x.swap(0, 1);
        due("behind a minute and a swap", x.pleased(0, 0), 2);
        x.sitter(1, 0, 0, 0);
        due("one more", x.pleased(0, 0), 3);
        Check.put(x, new byte[] {0, 1, 0, 1});
        x.row();
        due("one more by a row", x.pleased(0, 0), 4);
    }

    // Promise 38
    private static void count() {
        SteamNations x = room(9, 1, 0, 0, 5, 3);
        x.seat(1, 4);
        due("sitters", x.count(0), 2);
        due("seats", x.count(1), 1);
        due("undone", x.count(4), 1);
        due("red", x.count(15), 9);
        due("blue", x.count(16), 6);
        due("green", x.count(17), 3);
        due("18", x.count(18), NONE);
        due("-1", x.count(-1), NONE);
        x.swap(0, 0);
        x.out(7);
        x.out(7);
        x.undo();
        x.undo();
        x.out(0);
        due("by -1", x.count(6), 1);
        due("by -2", x.count(7), 2);
        due("by -3", x.count(8), 2);
        for (int i = 0; i < 8; i++) {
            x.sitter(0, 0, 0, 0);
        }
        due("by -5", x.count(9), 4);
        for (int i = 0; i < 5; i++) {
            x.law();
        }
        due("by -6", x.count(10), 5);
        x.of(9, 9);
        x.at(9);
        x.feed(0, 0, 0, 0, 0);
        x.end(21);
        x.later(0, 99, 0);
        x.pleased(99, 0);
        due("NONE is no refusal", x.count(6), 1);
        due("tape", x.count(5), 20);
    }

    // Promise 39
    private static void status() {
        SteamNations x = room(9, 1, 0, 0, 5, 3);
        due("status", x.status(), 0);
        x.sitter(0, 0, 0, 3);
        due("sitter", x.status(), -1);
        x.of(0, 0);
        x.at(0);
        x.asks(0, 1);
        x.feed(0, 0, 0, 0, 0);
        x.end(0);
        x.puffs();
        x.fault();
        x.stopped();
        x.later(0, 0, 0);
        x.when(0, 0);
        x.one();
        x.pleased(0, 0);
        x.exchanges(0, 0);
        x.forget();
        x.sat(0, 0);
        x.ask(0, 0);
        x.treaty(1, 0);
        x.drop(0, 0, 0);
        x.few(1, 1);
        x.compare(NONE, 0);
        x.drawn(0, 0);
        x.count(0);
        due("others leave it", x.status(), -1);
        x.terms(2, 1);
        due("terms", x.status(), 0);
        x.row();
        due("row", x.status(), -6);
        x.force(NONE);
        due("force", x.status(), 0);
        x.force(0);
        due("force, refused", x.status(), -2);
        x.seat(0, 0);
        due("seat", x.status(), 0);
        x.seat(1, 0);
        due("seat, refused", x.status(), -3);
        x.pass();
        due("pass", x.status(), 0);
        x.out(1);
        due("out, refused", x.status(), -3);
        x.undo();
        due("undo", x.status(), 0);
        x.swap(1, 1);
        due("swap, refused", x.status(), -1);
        x.seen(0, 0, 0);
        due("seen", x.status(), 0);
        x.law();
        due("law, refused", x.status(), -6);
        x.mornings(0, 1);
        due("mornings", x.status(), 0);
        x.back(0);
        due("back, refused", x.status(), -2);
        x.image(0);
        due("image", x.status(), 0);
        x.orders();
        due("orders, refused", x.status(), -6);
        x.back(0);
        due("back", x.status(), 0);
        x.image(9);
        due("image, refused", x.status(), -1);
        x.out(0);
        due("out", x.status(), 0);
    }
}
