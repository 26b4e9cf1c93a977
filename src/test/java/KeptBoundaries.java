/** Boundaries of promises 34 to 39: mornings, images, counts, refusals. */
final class KeptBoundaries {
    private static final int NONE = SteamNations.NONE;
    private static final int LOW = Integer.MIN_VALUE;
    private static final int HIGH = Integer.MAX_VALUE;

    private KeptBoundaries() {
    }

    private static void due(String what, long got, long want) {
        Check.due(what, got, want);
    }

    // Mornings

    @Sentence(promises = {34}, words = "MORNINGS with a SEED, n 1 .. 60, on paper: s is the SEED (0 .. 1,000,000)")
    static void seedsAndMornings(SteamNations x) {
        x.sitter(1, 0, 0, 0);
        int[] noSeed = {-1, 1000001, 1000003, LOW, HIGH};
        for (int seed : noSeed) {
            due("seed " + seed, x.mornings(seed, 1), -1);
        }
        int[] noN = {0, 61, -1, LOW, HIGH};
        for (int n : noN) {
            due("n " + n, x.mornings(0, n), -1);
        }
        due("its refusal", x.status(), -1);
        due("refused by -1", x.count(6), 10);
        due("none was kept", x.drawn(0, 0), NONE);
        due("seed 0", x.mornings(0, 1), 1);
        due("seed 1000000", x.mornings(1000000, 1), 1);
        due("n 60", x.mornings(0, 60), 1);
        due("on paper", x.count(12) + x.count(1) + x.count(4), 0);
        due("no refusal", x.status(), 0);
    }

    @Sentence(promises = {34}, words = "MORNINGS, kept as the latest: how many SITTERS are what they WISH behind them. -1; -3 there are no SITTERS.")
    static void morningsOfNobody(SteamNations x) {
        due("no sitters", x.mornings(0, 1), -3);
        due("its refusal", x.status(), -3);
        due("no sitters, no seed", x.mornings(-1, 1), -1);
        due("no sitters, no n", x.mornings(0, 61), -1);
        due("refused by -1, -3", x.count(6) * 10 + x.count(8), 21);
        x.sitter(0, 1, 0, 0);
        due("none is what it wishes", x.mornings(0, 1), 0);
        due("no refusal", x.status(), 0);
        x.sitter(1, 0, 0, 0);
        due("one is", x.mornings(0, 1), 1);
    }

    @Sentence(promises = {34, 35}, words = "a DRAW of m: s becomes (s times 1103 and 12345) modulo 1,000,003, it is s modulo m")
    static void drawsGoAround(SteamNations x) {
        x.sitter(1, 0, 0, 0);
        x.seat(0, 8);
        // 1000000 times 1103 and 12345 is 1103 times 1000003 and 9036; then 979026, 874786: sitter 0, seat 6, 1.
        x.mornings(1000000, 1);
        due("the highest seed: sent OUT", x.drawn(0, 3), NONE);
        // 12345, 628841, 621889: 0, 2, 1.
        x.mornings(0, 1);
        due("the lowest seed: sent OUT", x.drawn(0, 3), NONE);
        // 17860, 711868, 200394: 0, 4, 0; 46264, 41384, 658762: 0, 2, 1.
        x.mornings(5, 1);
        due("seated at 4", x.drawn(0, 3), 4);
        x.mornings(5, 2);
        due("then sent OUT", x.drawn(0, 3), NONE);
        int s = 5;
        int seat = 8;
        for (int n = 1; n <= 60; n++) {
            s = (s * 1103 + 12345) % 1000003;
            s = (s * 1103 + 12345) % 1000003;
            int where = s % 9;
            s = (s * 1103 + 12345) % 1000003;
            seat = s % 3 == 0 ? where : s % 3 == 1 ? NONE : seat;
            x.mornings(5, n);
            due("behind " + n, x.drawn(0, 3), seat);
        }
    }

    @Sentence(promises = {34, 35}, words = "Each time (at MINUTE 999 it ends)")
    static void morningsEndAt999(SteamNations x) {
        x.sitter(99, 0, 0, 0);
        x.sitter(0, 0, 0, 0);
        x.seat(0, 4);
        x.terms(0, 999);
        due("none", x.mornings(0, 60), 2);
        due("seat as it is", x.drawn(0, 3), 4);
        due("no refusal", x.status(), 0);
        for (int minute = 940; minute < 999; minute += 13) {
            x.terms(0, minute);
            int left = 999 - minute;
            x.mornings(7, 60);
            int all = x.drawn(0, 0) * 10000 + x.drawn(1, 0) * 100 + x.drawn(0, 3) * 10 + x.drawn(1, 3);
            x.mornings(7, left);
            due("as many as are left: " + left, all,
                    x.drawn(0, 0) * 10000 + x.drawn(1, 0) * 100 + x.drawn(0, 3) * 10 + x.drawn(1, 3));
        }
        x.terms(0, 939);
        Check.rule(x, "passes 0; leaves if minute = 998");
        x.mornings(4, 59);
        int inside = (x.drawn(0, 3) == NONE ? 0 : 1) + (x.drawn(1, 3) == NONE ? 0 : 1);
        due("both are inside at 998", inside, 2);
        x.mornings(4, 60);
        due("the last minute passes, too", x.drawn(0, 3) + x.drawn(1, 3), -2);
    }

    @Sentence(promises = {34, 35}, words = "at 0 that SITTER is SEATED there, at 1 sent OUT, each if it can be, at 2 nothing")
    static void eachIfItCanBe(SteamNations x) {
        // Seed 2: 14551, 62050, 453291: of two sitters the second, seat 4, seated.
        x.sitter(1, 0, 0, 0);
        x.sitter(1, 0, 0, 0);
        x.mornings(2, 1);
        due("seated", x.drawn(1, 3), 4);
        x.seat(0, 4);
        x.mornings(2, 1);
        due("taken: it stays OUT", x.drawn(1, 3) * 10 + x.drawn(0, 3), -6);
        x.seat(1, 3);
        x.mornings(2, 1);
        due("taken: it stays there", x.drawn(1, 3) * 10 + x.drawn(0, 3), 34);
        x.out(0);
        x.seat(1, 4);
        x.mornings(2, 1);
        due("its own: it stays there", x.drawn(1, 3), 4);
        // Seed 1000000: 9036, 979026, 874786: the first, sent OUT.
        x.mornings(1000000, 1);
        due("OUT already", x.drawn(0, 3), NONE);
        // Seed 1: 13448, 845447, 537590: the first, nothing.
        x.seat(0, 2);
        x.mornings(1, 1);
        due("nothing", x.drawn(0, 3) * 10 + x.drawn(1, 3), 24);
    }

    @Sentence(promises = {35}, words = "Behind the latest MORNINGS PARTS of NATION 0 .. 2 (what), the SEAT (3; NONE, too: OUT) of a SITTER. NONE.")
    static void drawnOfNobody(SteamNations x) {
        due("nobody, none yet", x.drawn(0, 0), NONE);
        x.sitter(1, 2, 3, 0);
        due("none yet", x.drawn(0, 0), NONE);
        x.mornings(1, 1);
        due("what 0", x.drawn(0, 0), 1);
        due("what 2", x.drawn(0, 2), 3);
        due("OUT", x.drawn(0, 3), NONE);
        int[] noWhat = {-1, 4, LOW, HIGH};
        for (int what : noWhat) {
            due("what " + what, x.drawn(0, what), NONE);
        }
        int[] nobody = {-1, 1, 6, LOW, HIGH};
        for (int p : nobody) {
            due("nobody: " + p, x.drawn(p, 0), NONE);
        }
        x.sitter(4, 4, 4, 0);
        due("who came since", x.drawn(1, 0), NONE);
        x.mornings(-1, 1);
        due("refused: the latest stay", x.drawn(0, 2), 3);
        x.mornings(1, 1);
        due("the latest", x.drawn(1, 0), 4);
        due("nothing of that was counted but one", x.count(6) + x.count(7), 1);
    }

    // Images

    @Sentence(promises = {36}, words = "IMAGE k is kept: 0; -1.")
    static void twoImages(SteamNations x) {
        int[] beyond = {-1, 2, LOW, HIGH};
        for (int k : beyond) {
            due("image " + k, x.image(k), -1);
        }
        due("refused by -1", x.count(6), 4);
        due("image 0", x.image(0), 0);
        due("image 1", x.image(1), 0);
        due("again", x.image(0), 0);
        due("no refusal", x.status(), 0);
    }

    @Sentence(promises = {37}, words = "BACK to IMAGE k: 0. -1; -2 it was not kept.")
    static void imageNotKept(SteamNations x) {
        int[] beyond = {-1, 2, LOW, HIGH};
        for (int k : beyond) {
            due("back " + k, x.back(k), -1);
        }
        due("0 was not kept", x.back(0), -2);
        due("1 was not kept", x.back(1), -2);
        due("its refusal", x.status(), -2);
        x.image(1);
        due("0 was not kept, still", x.back(0), -2);
        due("1 was", x.back(1), 0);
        due("no refusal", x.status(), 0);
        due("once more", x.back(1), 0);
        due("refused by -1, -2", x.count(6) * 10 + x.count(7), 43);
    }

    @Sentence(promises = {36, 37}, words = "BACK to one all that it keeps is as it was then (IMAGES stay)")
    static void backToTheFirstImage(SteamNations x) {
        x.image(0);
        for (int p = 0; p < 6; p++) {
            x.sitter(9, 8, 7, 1);
            x.seat(p, p);
            Check.law(x, "passes " + p);
            x.seen(p, p, 2);
        }
        x.force(5);
        x.terms(0, 999);
        x.terms(1, 10);
        x.terms(2, 9);
        x.image(1);
        due("back to the empty room", x.back(0), 0);
        int[] empty = {0, 0, 0, 0, 0};
        for (int what = 0; what < empty.length; what++) {
            due("empty: count(" + what + ")", x.count(what), empty[what]);
        }
        due("empty: force", x.count(11), NONE);
        due("empty: terms", x.count(12) * 100 + x.count(13) * 10 + x.count(14), 10);
        due("empty: parts", x.count(15) + x.count(16) + x.count(17), 0);
        due("empty: nobody at 0", x.at(0), NONE);
        due("empty: law 0", x.force(0), -2);
        due("empty: nobody", x.of(0, 0), NONE);
        due("the first anew", x.sitter(1, 1, 1, 0), 0);
        due("OUT", x.of(0, 4), NONE);
        due("back to the full room", x.back(1), 0);
        int[] full = {6, 6, 6, 6, 0};
        for (int what = 0; what < full.length; what++) {
            due("full: count(" + what + ")", x.count(what), full[what]);
        }
        due("full: force", x.count(11), 5);
        due("full: terms", x.count(12) * 1000 + x.count(13) * 10 + x.count(14), 999109);
        due("full: parts", x.count(15) * 10000 + x.count(16) * 100 + x.count(17), 544842);
        due("full: who is at 5", x.at(5), 5);
        due("full: wish", x.of(0, 3), 1);
        due("full: its law", x.asks(0, 1), 5);
        x.force(0);
        due("full: its first law", x.asks(0, 1), 0);
        due("full: what was seen is not so", x.sat(NONE, 0), 0);
        due("full: no room", x.sitter(0, 0, 0, 0), -5);
        due("full: no room for a law", Check.law(x, "keeps"), -5);
        due("full: no room for what is seen", x.seen(0, 0, 0), -5);
        due("images stay", x.back(0) + x.count(0), 0);
    }

    @Sentence(promises = {36, 37}, words = "BACK to one all that it keeps is as it was then")
    static void whatWasSeenAndTheLawsAreBack(SteamNations x) {
        Check.sitters(x, 5, 0, 0, 0, 5, 0);
        x.seat(0, 0);
        x.seat(1, 1);
        Check.rule(x, "passes 2");
        x.seen(0, 0, 0);
        x.image(0);
        x.forget();
        x.seen(0, 0, 1);
        x.image(1);
        due("another was seen", x.sat(NONE, 0), 0);
        x.back(0);
        due("that was seen", x.sat(NONE, 0), 2);
        due("its law", x.asks(0, 1), 2);
        Check.law(x, "passes 3");
        x.image(1);
        x.back(0);
        due("one law", x.count(3), 1);
        due("another second law", Check.law(x, "passes 4"), 1);
        x.force(1);
        due("it is told", x.asks(0, 1), 4);
        x.back(1);
        x.force(1);
        due("the second law of that image", x.asks(0, 1), 3);
    }

    @Sentence(promises = {37},
            words = "IMAGES 0, 1 keep all but the TAPE, FAULT, PUFFS, where ORDERS stopped, what can be undone (nothing, behind back()), the latest MORNINGS")
    static void whatImagesDoNotKeep(SteamNations x) {
        x.sitter(1, 2, 3, 0);
        x.image(0);
        x.sitter(4, 5, 6, 0);
        x.seat(1, 4);
        x.mornings(1, 1);
        Check.put(x, new byte[] {-1});
        x.row();
        Check.orders(x, "pass;pass;out 0");
        Check.law(x, "keeps if 1");
        x.pass();
        x.feed(0, 0, 0, 0, 0);
        due("can be undone", x.count(4), 1);
        due("back", x.back(0), 0);
        due("tape", x.count(5), 20);
        due("fault", x.fault(), 10);
        due("puffs", x.puffs(), 1);
        due("stopped", x.stopped(), 2);
        due("nothing can be undone", x.count(4), 0);
        due("nothing is undone", x.undo(), -3);
        due("mornings", x.drawn(0, 1), 2);
        due("mornings of one who is not there now", x.drawn(1, 3), 4);
        x.pass();
        x.image(1);
        due("image() leaves what can be undone", x.count(4), 1);
        due("it is undone", x.undo(), 3);
    }

    @Sentence(promises = {37, 38}, words = "how many calls were REFUSED by -1, -2, -3, -5, -6 (IMAGES do not keep that)")
    static void refusalsAreNotKept(SteamNations x) {
        x.image(0);
        x.terms(3, 0);
        x.out(0);
        x.undo();
        for (int p = 0; p < 7; p++) {
            x.sitter(0, 0, 0, 0);
        }
        x.row();
        for (int what = 6; what <= 10; what++) {
            due("count(" + what + ")", x.count(what), 1);
        }
        x.back(0);
        for (int what = 6; what <= 10; what++) {
            due("behind back(): count(" + what + ")", x.count(what), 1);
        }
    }

    // Counts and refusals

    @Sentence(promises = {38}, words = "15 .. 17 all PARTS of NATIONS 0 .. 2. NONE for others.")
    static void countsOfOthers(SteamNations x) {
        due("0 of an empty room", x.count(0), 0);
        due("17 of an empty room", x.count(17), 0);
        for (int p = 0; p < 6; p++) {
            x.sitter(99, 98, 97, 0);
        }
        due("15", x.count(15), 594);
        due("16", x.count(16), 588);
        due("17", x.count(17), 582);
        int[] beyond = {-1, 18, LOW, HIGH};
        for (int what : beyond) {
            due("count(" + what + ")", x.count(what), NONE);
        }
        due("no refusal", x.status() + x.count(6), 0);
    }

    @Sentence(promises = {38}, words = "5 bytes of the TAPE, 6 .. 10 how many calls were REFUSED by -1, -2, -3, -5, -6")
    static void countsOfRefusals(SteamNations x) {
        // One call, one refusal, by the first of those that could be.
        x.seat(9, 9);
        due("by -1", x.count(6), 1);
        due("by none else", x.count(7) + x.count(8) + x.count(9) + x.count(10), 0);
        x.seen(9, 0, 0);
        due("by -2", x.count(7), 1);
        Check.orders(x, "out 5");
        due("by -3, and not by -2 once more", x.count(8) * 10 + x.count(7), 11);
        for (int i = 0; i < 7; i++) {
            Check.law(x, "keeps");
        }
        due("by -5", x.count(9), 1);
        Check.orders(x, "out");
        due("by -6", x.count(10), 1);
        x.feed(0, 0, 0, 0, 0);
        x.end(21);
        x.end(-1);
        x.of(0, 0);
        x.later(0, 61, 0);
        x.few(0, 0);
        x.drop(0, 0, 0);
        x.count(18);
        due("NONE is no refusal", x.count(6) + x.count(7) + x.count(8) + x.count(9) + x.count(10), 5);
        due("bytes", x.count(5), 20);
    }

    @Sentence(promises = {38}, words = "4 how many can be undone")
    static void countOfWhatCanBeUndone(SteamNations x) {
        due("none", x.count(4), 0);
        for (int i = 1; i <= 18; i++) {
            x.pass();
            due("behind " + i, x.count(4), Math.min(i, 16));
        }
        x.undo();
        due("one less", x.count(4), 15);
        x.pass();
        x.pass();
        due("16 at most", x.count(4), 16);
    }

    @Sentence(promises = {39}, words = "0 if it was not, or ahead of any")
    static void statusOfEach(SteamNations x) {
        due("ahead of any", x.status(), 0);
        x.of(0, 0);
        x.feed(0, 0, 0, 0, 0);
        x.end(99);
        due("ahead of any of these", x.status(), 0);
        x.end(0);
        refused(x, "sitter", x.sitter(-1, 0, 0, 0), -1);
        accepted(x, "sitter", x.sitter(9, 0, 0, 0), 0);
        refused(x, "terms", x.terms(0, 1000), -1);
        accepted(x, "terms", x.terms(1, 10), 1);
        refused(x, "row", x.row(), -6);
        Check.put(x, new byte[1]);
        accepted(x, "row", x.row(), 0);
        refused(x, "law", x.law(), -6);
        accepted(x, "law", Check.law(x, "keeps"), 0);
        refused(x, "orders", Check.orders(x, "out 0"), -3);
        accepted(x, "orders", Check.orders(x, "out 0 if 1=2"), 0);
        refused(x, "force", x.force(1), -2);
        accepted(x, "force, told -1", x.force(0), NONE);
        refused(x, "seat", x.seat(0, 9), -1);
        accepted(x, "seat", x.seat(0, 8), 1);
        refused(x, "swap", x.swap(0, 1), -2);
        x.sitter(0, 9, 0, 0);
        x.seat(1, 7);
        refused(x, "swap", x.swap(0, 0), -1);
        accepted(x, "swap", x.swap(0, 1), 7);
        refused(x, "out", x.out(2), -2);
        accepted(x, "out", x.out(0), 7);
        x.terms(0, 999);
        refused(x, "pass", x.pass(), -3);
        x.terms(0, 998);
        accepted(x, "pass", x.pass(), 999);
        x.back(2);
        accepted(x, "undo", x.undo(), 3);
        refused(x, "undo", x.undo(), -3);
        accepted(x, "seen", x.seen(0, 0, 0), 1);
        refused(x, "seen", x.seen(2, 0, 0), -2);
        accepted(x, "mornings", x.mornings(1, 1), 1);
        refused(x, "mornings", x.mornings(0, 0), -1);
        accepted(x, "image", x.image(0), 0);
        refused(x, "back", x.back(1), -2);
        accepted(x, "back", x.back(0), 0);
        refused(x, "image", x.image(2), -1);
    }

    private static void refused(SteamNations x, String call, int told, int by) {
        due(call + ", refused", told, by);
        due("status behind " + call + ", refused", x.status(), by);
    }

    private static void accepted(SteamNations x, String call, int told, int want) {
        due(call, told, want);
        due("status behind " + call, x.status(), 0);
    }

    @Sentence(promises = {39}, words = "What the latest call of sitter, terms, row, law, orders, force, seat, out, swap, pass, undo, seen, mornings, image, back was REFUSED by")
    static void othersLeaveStatus(SteamNations x) {
        x.sitter(9, 0, 0, 0);
        x.seat(0, 0);
        x.out(1);
        int refusal = x.status();
        due("refused", refusal, -2);
        long[] others = {x.of(0, 0), x.at(0), x.asks(0, 0), x.feed(0, 0, 0, 0, 0), x.end(0), x.puffs(), x.fault(), x.stopped(),
            x.later(0, 0, 0), x.when(0, 0), x.one(), x.pleased(0, 0), x.exchanges(0, 0), x.forget(), x.sat(0, 0), x.ask(0, 0),
            x.treaty(1, 0), x.drop(0, 0, 0), x.few(1, 1), x.compare(NONE, 0), x.drawn(0, 0), x.count(0)};
        due("others were called", others.length, 22);
        due("status, still", x.status(), -2);
        due("and again", x.status(), -2);
    }

    @Sentence(promises = {39}, words = "The first of these in that order.")
    static void firstRefusalInOrder(SteamNations x) {
        due("seat: -1 ahead of -2", x.seat(0, 9), -1);
        due("swap: -1 ahead of -2", x.swap(3, 3), -1);
        due("seen: -1 ahead of -2", x.seen(0, 10, 0), -1);
        due("mornings: -1 ahead of -3", x.mornings(-1, 0), -1);
        due("back: -1 ahead of -2", x.back(2), -1);
        Check.fullRoom(x);
        due("sitter: -1 ahead of -5", x.sitter(0, 0, 0, 3), -1);
        due("seat: -2 ahead of -3", x.seat(6, 0), -2);
        x.out(0);
        due("swap: -2 ahead of -3", x.swap(0, 6), -2);
        due("out: -2", x.out(6), -2);
        for (int i = 0; i < 6; i++) {
            x.seen(0, 0, 0);
            Check.law(x, "keeps");
        }
        due("seen: -2 ahead of -5", x.seen(6, 0, 0), -2);
        due("law: -5 ahead of -6", Check.law(x, "?"), -5);
    }

    @Sentence(promises = {1, 38}, words = "An object is used for at most 512 calls after it has been made")
    static void fiveHundredAndTwelveCalls(SteamNations x) {
        for (int i = 1; i <= 510; i++) {
            due("minute", x.pass(), i);
        }
        due("the 511th", x.count(12), 510);
        due("the 512th", x.count(4), 16);
    }

    @Sentence(promises = {36, 37}, words = "BACK to one all that it keeps is as it was then")
    static void firstLawsOfTwoImages(SteamNations x) {
        Check.sitters(x, 5, 0, 0, 0, 5, 0);
        x.seat(0, 0);
        x.seat(1, 1);
        x.image(0);
        for (int i = 0; i < 6; i++) {
            Check.law(x, "passes " + i);
        }
        x.image(1);
        x.back(0);
        for (int i = 0; i < 6; i++) {
            due("other laws", Check.law(x, "passes " + (9 - i)), i);
        }
        x.back(1);
        for (int i = 0; i < 6; i++) {
            x.force(i);
            due("law " + i + " is that of the image", x.asks(0, 1), i);
        }
        x.back(0);
        due("no law", x.count(3), 0);
        due("none in force", x.count(11), NONE);
    }

    @Sentence(promises = {36}, words = "(IMAGES stay)")
    static void imageIsKeptAnew(SteamNations x) {
        x.sitter(1, 0, 0, 0);
        x.image(0);
        x.seat(0, 3);
        x.image(0);
        x.seat(0, 5);
        for (int i = 0; i < 3; i++) {
            due("back", x.back(0), 0);
            due("as it was when it was kept anew", x.of(0, 4), 3);
            x.out(0);
        }
        due("the other was not kept", x.back(1), -2);
        due("refused: nothing is brought back", x.of(0, 4) * 10 + x.count(4), -9);
    }

    @Sentence(promises = {39},
            words = "-1 a number that can't be; -2 there is no such SITTER, LAW, IMAGE; -3 it can't be by what stands; -5 no room; -6 a TEXT, a ROW that can't be.")
    static void refusedByEach(SteamNations x) {
        refused(x, "a number", x.terms(2, 10), -1);
        refused(x, "no such sitter", x.seat(0, 0), -2);
        refused(x, "no such law", x.force(0), -2);
        refused(x, "no such image", x.back(0), -2);
        refused(x, "by what stands", x.undo(), -3);
        refused(x, "a text", Check.law(x, "x"), -6);
        refused(x, "another text", Check.orders(x, "x"), -6);
        refused(x, "a row", x.row(), -6);
        Check.fullRoom(x);
        refused(x, "no room", x.sitter(0, 0, 0, 0), -5);
        int[] often = {1, 3, 1, 1, 3};
        for (int what = 6; what <= 10; what++) {
            due("count(" + what + ")", x.count(what), often[what - 6]);
        }
    }

    @Sentence(promises = {34}, words = "DRAWS of SITTERS, of 9, of 3")
    static void drawsOfSixSitters(SteamNations x) {
        for (int p = 0; p < 6; p++) {
            x.sitter(0, 0, 0, p < 5 ? 0 : 1);
        }
        Check.rule(x, "passes 0");
        int[] seats = {NONE, NONE, NONE, NONE, NONE, NONE};
        int s = 11;
        for (int n = 1; n <= 60; n++) {
            s = (s * 1103 + 12345) % 1000003;
            int who = s % 6;
            s = (s * 1103 + 12345) % 1000003;
            int where = s % 9;
            s = (s * 1103 + 12345) % 1000003;
            boolean taken = false;
            for (int seat : seats) {
                taken |= seat == where;
            }
            if (s % 3 == 0 && !taken) {
                seats[who] = where;
            } else if (s % 3 == 1) {
                seats[who] = NONE;
            }
            due("five are what they wish", x.mornings(11, n), 5);
            due("who was drawn at " + n, x.drawn(who, 3), seats[who]);
        }
        for (int p = 0; p < 6; p++) {
            due("behind 60: sitter " + p, x.drawn(p, 3), seats[p]);
        }
        due("on paper alone", x.count(1), 0);
    }

    @Sentence(promises = {38}, words = "0 SITTERS, 1 how many have SEATS, 2 SEEN, 3 LAWS")
    static void countsOfAFullRoom(SteamNations x) {
        Check.fullRoom(x);
        x.out(5);
        for (int i = 0; i < 6; i++) {
            x.seen(0, 0, 0);
            Check.law(x, "keeps");
        }
        due("sitters", x.count(0), 6);
        due("have seats", x.count(1), 5);
        due("seen", x.count(2), 6);
        due("laws", x.count(3), 6);
        x.force(5);
        due("in force", x.count(11), 5);
    }
}
