/** Boundaries of promises 16 to 20: seats, exchanges, minutes, what is undone. */
final class MoveBoundaries {
    private static final int NONE = SteamNations.NONE;
    private static final int LOW = Integer.MIN_VALUE;
    private static final int HIGH = Integer.MAX_VALUE;

    private MoveBoundaries() {
    }

    private static void due(String what, long got, long want) {
        Check.due(what, got, want);
    }

    @Sentence(promises = {16}, words = "To SEAT a SITTER (OUT, or on another SEAT) at a SEAT nobody has.")
    static void seatThatIsTaken(SteamNations x) {
        Check.sitters(x, 1, 0, 0, 1, 0, 0);
        due("OUT to 4", x.seat(0, 4), 1);
        due("its own", x.seat(0, 4), -3);
        due("another one's", x.seat(1, 4), -3);
        due("on another seat", x.seat(0, 5), 1);
        due("the one it left", x.seat(1, 4), 2);
        due("seats", x.of(0, 4) * 10 + x.of(1, 4), 54);
        due("refused by -3", x.count(8), 2);
        due("what was refused can't be undone", x.count(4), 3);
    }

    @Sentence(promises = {16}, words = "To SEAT: how many have SEATS. -1 (the SEAT); -2; -3.")
    static void seatRefusedInOrder(SteamNations x) {
        due("nobody at no seat", x.seat(0, 9), -1);
        due("nobody", x.seat(0, 0), -2);
        Check.sitters(x, 1, 0, 0);
        x.seat(0, 0);
        due("no seat", x.seat(0, -1), -1);
        due("its refusal", x.status(), -1);
        int[] nobody = {-1, 1, 6, LOW, HIGH};
        for (int p : nobody) {
            due("nobody at no seat: " + p, x.seat(p, 9), -1);
            due("nobody at a taken seat: " + p, x.seat(p, 0), -2);
        }
        due("its refusal", x.status(), -2);
        due("a taken seat", x.seat(0, 0), -3);
        due("its refusal", x.status(), -3);
        due("refused by -1, -2, -3", x.count(6) * 100 + x.count(7) * 10 + x.count(8), 761);
    }

    @Sentence(promises = {16}, words = "To SEAT: how many have SEATS.")
    static void sixHaveSeats(SteamNations x) {
        for (int p = 0; p < 6; p++) {
            x.sitter(1, 0, 0, 0);
            due("seat", x.seat(p, 8 - p), p + 1);
        }
        due("another seat: as many", x.seat(5, 0), 6);
        due("how many", x.count(1), 6);
    }

    @Sentence(promises = {17}, words = "To send OUT: the SEAT. -2; -3.")
    static void outRefusedInOrder(SteamNations x) {
        due("nobody", x.out(0), -2);
        Check.sitters(x, 1, 0, 0);
        due("OUT already", x.out(0), -3);
        due("its refusal", x.status(), -3);
        int[] nobody = {-1, 1, 6, LOW, HIGH};
        for (int p : nobody) {
            due("nobody: " + p, x.out(p), -2);
        }
        x.seat(0, 0);
        due("seat 0", x.out(0), 0);
        due("not refused", x.status(), 0);
        x.seat(0, 8);
        due("seat 8", x.out(0), 8);
        due("OUT again", x.out(0), -3);
        due("refused by -2, -3", x.count(7) * 10 + x.count(8), 62);
    }

    @Sentence(promises = {18}, words = "To SWAP: the SEAT of the first one then. -1 (itself); -2; -3.")
    static void swapRefusedInOrder(SteamNations x) {
        due("nobody with itself", x.swap(0, 0), -1);
        due("nobody with nobody", x.swap(0, 1), -2);
        Check.sitters(x, 1, 0, 0, 1, 0, 0);
        due("OUT with itself", x.swap(0, 0), -1);
        due("both OUT", x.swap(0, 1), -3);
        x.seat(0, 0);
        due("the other OUT", x.swap(0, 1), -3);
        due("the one OUT", x.swap(1, 0), -3);
        int[] nobody = {-1, 2, 6, LOW, HIGH};
        for (int p : nobody) {
            due("with nobody: " + p, x.swap(0, p), -2);
            due("nobody: " + p, x.swap(p, 0), -2);
            due("OUT with nobody: " + p, x.swap(1, p), -2);
            due("nobody with itself: " + p, x.swap(p, p), -1);
        }
        x.seat(1, 8);
        due("with itself", x.swap(1, 1), -1);
        due("swap", x.swap(0, 1), 8);
        due("the other", x.of(1, 4), 0);
        due("refused by -1, -2, -3", x.count(6) * 10000 + x.count(7) * 100 + x.count(8), 81603);
    }

    @Sentence(promises = {19}, words = "A MINUTE (below 999)")
    static void minute999(SteamNations x) {
        Check.sitters(x, 5, 0, 0, 0, 0, 0);
        x.seat(0, 0);
        x.seat(1, 1);
        x.terms(0, 998);
        due("to 999", x.pass(), 999);
        due("beyond", x.pass(), -3);
        due("its refusal", x.status(), -3);
        due("minute", x.count(12), 999);
        due("parts stay", x.of(0, 0) * 10 + x.of(1, 0), 41);
        due("can be undone", x.count(4), 1);
        due("refused by -3", x.count(8), 1);
        x.undo();
        due("to 999 again", x.pass(), 999);
    }

    @Sentence(promises = {19}, words = "A MINUTE: its number. -3.")
    static void minuteOfAnEmptyRoom(SteamNations x) {
        due("the first", x.pass(), 1);
        due("the second", x.pass(), 2);
        x.terms(0, 999);
        due("beyond 999", x.pass(), -3);
    }

    @Sentence(promises = {19}, words = "PARTS of what it IS, as many as told, as long as it has such")
    static void asLongAsItHasSuch(SteamNations x) {
        Check.sitters(x, 5, 4, 0, 0, 0, 1, 0, 0, 1, 0, 0, 1, 0, 0, 0);
        x.seat(0, 4);
        x.seat(1, 7);
        x.seat(2, 1);
        x.seat(3, 3);
        x.seat(4, 8);
        Check.rule(x, "passes 3; keeps if nation = 2");
        x.pass();
        due("all reds are gone, no blue", x.of(0, 0) * 10 + x.of(0, 1), 4);
        due("three to seat 1", x.of(2, 0), 3);
        due("two to seat 3", x.of(3, 0), 2);
        due("none to seat 7", x.of(1, 0), 0);
        due("one of nothing passes nothing", x.of(4, 0) * 10 + x.of(1, 2), 1);
    }

    @Sentence(promises = {19}, words = "PASSES to those BESIDE it, by rising SEATS of these")
    static void byRisingSeats(SteamNations x) {
        Check.sitters(x, 4, 0, 0, 0, 0, 9, 0, 0, 9, 0, 0, 9, 0, 0, 9);
        x.seat(0, 4);
        x.seat(1, 7);
        x.seat(2, 5);
        x.seat(3, 3);
        x.seat(4, 1);
        Check.rule(x, "passes 1; passes 2 if sitter = 0 and minute = 1; keeps if nation = 2");
        x.pass();
        due("one each", x.of(1, 0) * 1000 + x.of(2, 0) * 100 + x.of(3, 0) * 10 + x.of(4, 0), 1111);
        x.undo();
        x.terms(0, 1);
        x.pass();
        due("two to seats 1 and 3", x.of(1, 0) * 1000 + x.of(2, 0) * 100 + x.of(3, 0) * 10 + x.of(4, 0), 22);
    }

    @Sentence(promises = {19}, words = "all as it was ahead of it, each SITTER on a SEAT that does not KEEP all PASSES")
    static void asItWasAhead(SteamNations x) {
        Check.sitters(x, 9, 0, 0, 0, 1, 0, 0, 0, 1);
        x.seat(0, 0);
        x.seat(1, 1);
        x.seat(2, 2);
        Check.rule(x, "passes 9");
        x.pass();
        due("0 got its blue alone", x.of(0, 0) * 100 + x.of(0, 1) * 10 + x.of(0, 2), 10);
        due("1 got nine reds, and passed none of them", x.of(1, 0) * 100 + x.of(1, 1) * 10 + x.of(1, 2), 901);
        due("2 got nothing", x.of(2, 0) * 100 + x.of(2, 1) * 10 + x.of(2, 2), 0);
    }

    @Sentence(promises = {19}, words = "then those who must LEAVE (as it is then, MINUTE as ahead) are OUT")
    static void leaveAsItIsThen(SteamNations x) {
        Check.sitters(x, 3, 0, 0, 0, 0, 9, 5, 0, 0);
        x.seat(0, 0);
        x.seat(1, 1);
        x.seat(2, 8);
        Check.rule(x, "keeps if nation = 2; leaves if much = 2 and minute = 0; leaves if nation = 2 and minute = 1");
        due("not yet", x.of(0, 7), 0);
        x.pass();
        due("0 has two then, at minute 0", x.of(0, 4), NONE);
        due("1 stays: it was minute 0", x.of(1, 4), 1);
        x.pass();
        due("1 leaves: it was minute 1", x.of(1, 4), NONE);
        due("one is left", x.count(1), 1);
        due("who left can be seated", x.seat(0, 0), 2);
    }

    @Sentence(promises = {20}, words = "The latest seat(), out(), swap(), pass() (by ORDERS, too; 16 are kept) is undone: 0 .. 3.")
    static void sixteenAreKept(SteamNations x) {
        Check.sitters(x, 1, 0, 0);
        for (int i = 1; i <= 40; i++) {
            x.seat(0, i % 9);
            due("kept", x.count(4), Math.min(i, 16));
        }
        for (int i = 39; i > 23; i--) {
            due("undo", x.undo(), 0);
            due("seat", x.of(0, 4), i % 9);
            due("kept", x.count(4), i - 24);
        }
        due("no more", x.undo(), -3);
        due("seat, still", x.of(0, 4), 24 % 9);
        due("its refusal", x.status() * 10 + x.count(8), -29);
    }

    @Sentence(promises = {20}, words = "(by ORDERS, too; 16 are kept)")
    static void sixteenByOrders(SteamNations x) {
        Check.orders(x, "pass times 20");
        due("kept", x.count(4), 16);
        for (int i = 19; i >= 4; i--) {
            due("undo", x.undo(), 3);
            due("minute", x.count(12), i);
        }
        due("no more", x.undo(), -3);
        for (int i = 5; i <= 8; i++) {
            due("anew", x.pass(), i);
        }
        due("orders that end keep what was kept", Check.orders(x, "pass times 20;out 0"), -3);
        due("kept", x.count(4), 4);
        for (int i = 7; i >= 4; i--) {
            due("undo", x.undo(), 3);
            due("minute", x.count(12), i);
        }
        due("no more", x.undo(), -3);
    }

    @Sentence(promises = {20}, words = "is undone: 0 .. 3.")
    static void fourKinds(SteamNations x) {
        Check.sitters(x, 9, 0, 0, 0, 9, 0);
        x.seat(0, 0);
        x.seat(1, 1);
        x.swap(0, 1);
        x.pass();
        x.out(1);
        due("out", x.undo(), 1);
        due("its seat", x.of(1, 4), 0);
        due("pass", x.undo(), 3);
        due("parts and minute", x.of(0, 0) * 100 + x.of(1, 1) * 10 + x.count(12), 990);
        due("swap", x.undo(), 2);
        due("seats", x.of(0, 4) * 10 + x.of(1, 4), 1);
        due("seat", x.undo(), 0);
        due("OUT", x.of(1, 4), NONE);
        due("seat", x.undo(), 0);
        due("nobody has a seat", x.count(1), 0);
        due("no more", x.undo(), -3);
    }

    @Sentence(promises = {19, 20}, words = "(by ORDERS, too; 16 are kept) is undone")
    static void whoLeftIsBack(SteamNations x) {
        Check.sitters(x, 9, 0, 0);
        x.seat(0, 3);
        Check.rule(x, "leaves");
        x.pass();
        due("OUT", x.of(0, 4), NONE);
        due("undo", x.undo(), 3);
        due("back on its seat", x.of(0, 4), 3);
    }

    @Sentence(promises = {20},
            words = "-3 there is none (nothing that was ahead of a sitter(), terms(), row() that was not REFUSED can be undone)")
    static void nothingAheadOfThese(SteamNations x) {
        due("none at first", x.undo(), -3);
        x.pass();
        x.sitter(1, 0, 0, 3);
        x.terms(0, 1000);
        x.row();
        x.seat(0, 0);
        due("refused ones do not matter", x.count(4), 1);
        x.sitter(1, 0, 0, 0);
        due("behind sitter()", x.undo(), -3);
        x.seat(0, 0);
        x.terms(2, 0);
        due("behind terms()", x.undo(), -3);
        x.out(0);
        Check.put(x, new byte[3]);
        x.row();
        due("behind a row() of nobody", x.undo(), -3);
        x.pass();
        Check.law(x, "keeps");
        x.force(0);
        x.seen(0, 0, 0);
        x.forget();
        x.mornings(0, 1);
        x.image(0);
        Check.orders(x, "pass if 1=2");
        Check.orders(x, "pass;out 0");
        Check.orders(x, "?");
        due("others leave it", x.undo(), 3);
        due("refused by -3", x.count(8), 5);
    }

    @Sentence(promises = {17}, words = "To send OUT one who has a SEAT.")
    static void outOfEachSeat(SteamNations x) {
        Check.sitters(x, 1, 0, 0, 1, 0, 0);
        for (int seat = 0; seat < 9; seat++) {
            x.seat(1, seat);
            due("out", x.out(1), seat);
            due("OUT", x.of(1, 4), NONE);
            due("nobody is there", x.at(seat), NONE);
            due("nobody has a seat", x.count(1), 0);
            due("OUT already", x.out(1), -3);
            due("as many can be undone", x.count(4), Math.min(16, 2 * seat + 2));
        }
    }

    @Sentence(promises = {18}, words = "To SWAP: two who have SEATS have each other's.")
    static void swapOfAnyTwo(SteamNations x) {
        for (int p = 0; p < 6; p++) {
            x.sitter(p, 0, 0, 0);
            x.seat(p, p < 3 ? p : p + 3);
        }
        // Seats 0 and 8 are not beside one another: that is no matter here.
        due("the first and the last", x.swap(0, 5), 8);
        due("the other", x.of(5, 4), 0);
        due("at 0, at 8", x.at(0) * 10 + x.at(8), 50);
        due("the other way round", x.swap(5, 0), 8);
        due("as they sat", x.at(0) * 10 + x.at(8), 5);
        due("as many have seats", x.count(1), 6);
        due("parts stay", x.of(0, 0) * 10 + x.of(5, 0), 5);
        for (int p = 1; p < 5; p++) {
            due("others stay", x.of(p, 4), p < 3 ? p : p + 3);
        }
    }

    @Sentence(promises = {19}, words = "it is the next MINUTE.")
    static void nextMinuteToTheLast(SteamNations x) {
        for (int minute : new int[] {0, 1, 499, 997, 998}) {
            x.terms(0, minute);
            due("pass", x.pass(), minute + 1);
            due("minute", x.count(12), minute + 1);
            due("undo", x.undo(), 3);
            due("minute ahead", x.count(12), minute);
        }
        due("other terms stay", x.count(13) * 10 + x.count(14), 10);
    }

    @Sentence(promises = {16, 17, 18, 19}, words = "-3 it can't be by what stands")
    static void whatCantBeChangesNothing(SteamNations x) {
        Check.sitters(x, 9, 0, 0, 0, 9, 0, 0, 0, 9);
        x.terms(0, 999);
        x.seat(0, 0);
        x.seat(1, 1);
        due("seat", x.seat(2, 1), -3);
        due("out", x.out(2), -3);
        due("swap", x.swap(2, 0), -3);
        due("swap, the other way round", x.swap(0, 2), -3);
        due("pass", x.pass(), -3);
        due("seats", x.of(0, 4) * 100 + x.of(1, 4) * 10 + x.of(2, 4), 9);
        due("parts", x.of(0, 0) * 100 + x.of(1, 1) * 10 + x.of(2, 2), 999);
        due("minute", x.count(12), 999);
        due("two can be undone", x.count(4), 2);
        due("refused by -3", x.count(8), 5);
    }
}
