/** Boundaries of promises 21 to 33: what is told on paper. */
final class PaperBoundaries {
    private static final int NONE = SteamNations.NONE;
    private static final int LOW = Integer.MIN_VALUE;
    private static final int HIGH = Integer.MAX_VALUE;
    private static final long WHOLE = 1000000000000L;

    private PaperBoundaries() {
    }

    private static void due(String what, long got, long want) {
        Check.due(what, got, want);
    }

    private static void noRefusal(SteamNations x) {
        due("no refusal", x.status() + x.count(6) + x.count(7) + x.count(8), 0);
    }

    /** Sitter 0 gives a red to sitter 1 each minute; 1 has as many blues as told, keeps all, and wishes to be red. */
    private static void redByRed(SteamNations x, int blues) {
        x.sitter(99, 0, 0, 0);
        x.sitter(0, blues, 0, 0);
        x.seat(0, 0);
        x.seat(1, 1);
        Check.rule(x, "passes 1; keeps if sitter = 1");
    }

    // Later, when, one

    @Sentence(promises = {21}, words = "LATER, n 0 .. 60: PARTS of NATION 0 .. 2 (what), what it IS (3). NONE.")
    static void laterAtItsEnds(SteamNations x) {
        due("nobody", x.later(0, 0, 0), NONE);
        redByRed(x, 60);
        due("0 on", x.later(0, 0, 0), 99);
        due("60 on", x.later(0, 60, 0), 39);
        due("60 on, the other", x.later(1, 60, 0), 60);
        due("60 on, alike: the lowest", x.later(1, 60, 3), 0);
        due("59 on", x.later(1, 59, 3), 1);
        int[] beyond = {-1, 61, LOW, HIGH};
        for (int n : beyond) {
            due("n " + n, x.later(0, n, 0), NONE);
        }
        int[] noWhat = {-1, 4, LOW, HIGH};
        for (int what : noWhat) {
            due("what " + what, x.later(0, 0, what), NONE);
        }
        int[] nobody = {-1, 2, 6, LOW, HIGH};
        for (int p : nobody) {
            due("nobody: " + p, x.later(p, 0, 0), NONE);
        }
        due("what 1", x.later(1, 60, 1), 60);
        due("what 2", x.later(1, 60, 2), 0);
        x.sitter(1, 2, 3, 0);
        due("what 2, OUT", x.later(2, 60, 2), 3);
        noRefusal(x);
    }

    @Sentence(promises = {21, 22, 23}, words = "(On paper, MINUTE going on, beyond 999, too:)")
    static void beyondMinute999(SteamNations x) {
        x.sitter(99, 0, 0, 0);
        x.sitter(0, 2, 0, 0);
        x.seat(0, 0);
        x.seat(1, 1);
        Check.rule(x, "passes 0; passes 1 if sitter = 0 and minute > 999");
        x.terms(0, 999);
        due("at 999", x.later(1, 1, 0), 0);
        due("at 1000", x.later(1, 2, 0), 1);
        due("at 1058", x.later(1, 60, 0), 59);
        due("when", x.when(1, 0), 3);
        due("one", x.one(), 3);
        due("pleased", x.pleased(3, 0), 2);
        due("compare", x.compare(0, 3), 2);
        due("on paper alone", x.count(12) * 100 + x.of(1, 0), 99900);
        due("no minute passes", x.pass(), -3);
    }

    @Sentence(promises = {22}, words = "WHEN it IS a NATION first, in 0 .. 60 MINUTES.")
    static void whenAtItsEnds(SteamNations x) {
        redByRed(x, 60);
        due("at once", x.when(1, 1), 0);
        due("at 60", x.when(1, 0), 60);
        SteamNations y = new SteamNations();
        redByRed(y, 61);
        due("not in 60", y.when(1, 0), NONE);
        SteamNations z = new SteamNations();
        redByRed(z, 0);
        due("alike ones: it is at once", z.when(1, 0), 0);
        due("never", z.when(1, 2), NONE);
        noRefusal(x);
    }

    @Sentence(promises = {22}, words = "`int when(int sitter, int nation)`: WHEN. NONE.")
    static void whenOfNobody(SteamNations x) {
        due("nobody", x.when(0, 0), NONE);
        x.sitter(0, 0, 0, 0);
        due("OUT", x.when(0, 0), 0);
        due("OUT, never", x.when(0, 1), NONE);
        int[] beyond = {-1, 3, LOW, HIGH};
        for (int nation : beyond) {
            due("nation " + nation, x.when(0, nation), NONE);
        }
        int[] nobody = {-1, 1, 6, LOW, HIGH};
        for (int p : nobody) {
            due("nobody: " + p, x.when(p, 0), NONE);
        }
        noRefusal(x);
    }

    @Sentence(promises = {23}, words = "ONE: in how many MINUTES 0 .. 60 all who have a SEAT then are the same NATION first")
    static void oneAtItsEnds(SteamNations x) {
        redByRed(x, 60);
        due("at 60", x.one(), 60);
        SteamNations y = new SteamNations();
        redByRed(y, 61);
        due("not in 60", y.one(), NONE);
        SteamNations z = new SteamNations();
        redByRed(z, 0);
        due("at once", z.one(), 0);
    }

    @Sentence(promises = {23}, words = "(nobody, or one alone: they are)")
    static void nobodyOrOneAlone(SteamNations x) {
        due("nobody at all", x.one(), 0);
        Check.sitters(x, 5, 0, 0, 0, 5, 0, 0, 0, 5);
        due("all OUT", x.one(), 0);
        x.seat(1, 4);
        due("one alone", x.one(), 0);
        x.seat(2, 0);
        due("two apart", x.one(), NONE);
        Check.rule(x, "leaves if nation = 2 and minute = 1");
        due("one alone then", x.one(), 2);
        Check.rule(x, "leaves if minute = 59");
        due("nobody then, at 60", x.one(), 60);
        Check.rule(x, "leaves if minute = 60");
        due("nobody then, at 61", x.one(), NONE);
    }

    // Seatings

    @Sentence(promises = {24, 28}, words = "SEATINGS: all who have a SEAT on the SEATS that are taken, in any order, as a row of SEATS by SITTERS (those who are OUT aside).")
    static void seatingsOfFewAndAll(SteamNations x) {
        due("nobody", x.sat(NONE, 0), 1);
        int[] many = {1, 2, 6, 24, 120, 720};
        x.sitter(0, 0, 0, 0);
        due("one, OUT", x.sat(NONE, 0), 1);
        due("its seat", x.sat(0, 0), NONE);
        due("no second", x.sat(1, 0), NONE);
        for (int p = 0; p < 6; p++) {
            x.seat(p, 8 - p);
            due("inside: " + (p + 1), x.sat(NONE, 0), many[p]);
            x.sitter(0, 0, 0, 0);
        }
        for (int p = 0; p < 6; p++) {
            due("first row", x.sat(0, p), 3 + p);
            due("last row", x.sat(719, p), 8 - p);
        }
        due("beyond the last", x.sat(720, 0), NONE);
        due("the second row", x.sat(1, 4) * 10 + x.sat(1, 5), 87);
        x.out(0);
        due("one OUT", x.sat(NONE, 0), 120);
        due("its seat", x.sat(119, 0), NONE);
        due("the last row", x.sat(119, 1) * 10 + x.sat(119, 5), 73);
    }

    @Sentence(promises = {24}, words = "PLEASED behind n MINUTES 0 .. 9")
    static void pleasedAtItsEnds(SteamNations x) {
        redByRed(x, 9);
        due("0", x.pleased(0, 0), 1);
        due("8", x.pleased(8, 0), 1);
        due("9", x.pleased(9, 0), 2);
        int[] beyond = {-1, 10, LOW, HIGH};
        for (int n : beyond) {
            due("n " + n, x.pleased(n, 0), NONE);
            due("n " + n, x.pleased(n, 1), NONE);
        }
        noRefusal(x);
    }

    @Sentence(promises = {24}, words = "PLEASED: how many (what 0), the SEAT of SITTER p (1 + p; NONE: OUT). NONE.")
    static void pleasedOfNobody(SteamNations x) {
        due("nobody", x.pleased(0, 0), 0);
        due("nobody's seat", x.pleased(0, 1), NONE);
        x.sitter(0, 0, 0, 0);
        x.sitter(0, 0, 0, 1);
        due("OUT", x.pleased(9, 0), 1);
        due("OUT: its seat", x.pleased(9, 1), NONE);
        x.seat(1, 0);
        due("seat 0", x.pleased(9, 2), 0);
        int[] beyond = {-1, 3, 7, LOW, HIGH};
        for (int what : beyond) {
            due("what " + what, x.pleased(0, what), NONE);
        }
        for (int p = 2; p < 6; p++) {
            x.sitter(0, 0, 0, 0);
            x.seat(p, p);
        }
        due("the sixth", x.pleased(0, 6), 5);
        due("no seventh", x.pleased(0, 7), NONE);
        noRefusal(x);
    }

    @Sentence(promises = {24}, words = "the SEATING by which the most SITTERS (OUT ones, too) are what they WISH then; the first as a row")
    static void firstOfAlikeSeatings(SteamNations x) {
        x.sitter(5, 0, 0, 1);
        x.sitter(5, 0, 0, 1);
        x.sitter(5, 0, 0, 1);
        x.sitter(0, 5, 0, 1);
        x.seat(0, 8);
        x.seat(1, 4);
        x.seat(2, 0);
        due("none but the one OUT", x.pleased(5, 0), 1);
        due("the first row", x.pleased(5, 1) * 100 + x.pleased(5, 2) * 10 + x.pleased(5, 3), 48);
        due("the one OUT", x.pleased(5, 4), NONE);
        due("seats as they were", x.of(0, 4) * 100 + x.of(1, 4) * 10 + x.of(2, 4), 840);
    }

    @Sentence(promises = {25}, words = "EXCHANGES: how many (what 0), the first two (1; NONE: none is needed). NONE (it can't come about).")
    static void exchangesNoneNeededOrNoWay(SteamNations x) {
        due("nobody", x.exchanges(0, 0), 0);
        due("nobody's first two", x.exchanges(0, 1), NONE);
        x.sitter(9, 0, 0, 0);
        x.sitter(0, 1, 0, 0);
        due("OUT", x.exchanges(9, 0), 0);
        Check.rule(x, "passes 0; passes 2 if sitter = 0 and tier = 0; keeps if sitter = 1");
        x.seat(0, 3);
        x.seat(1, 0);
        due("one", x.exchanges(1, 0), 1);
        due("its first two", x.exchanges(1, 1), 1);
        due("0 behind: none", x.exchanges(0, 0), 0);
        due("0 behind: none needed", x.exchanges(0, 1), NONE);
        x.swap(0, 1);
        due("none", x.exchanges(1, 0), 0);
        due("none needed", x.exchanges(1, 1), NONE);
        noRefusal(x);
    }

    @Sentence(promises = {25}, words = "NONE (it can't come about)")
    static void exchangesThatCantBe(SteamNations x) {
        // 1 is red, as it wishes, beside 0; but 0 is on a seat beside nobody's.
        x.sitter(9, 0, 0, 0);
        x.sitter(0, 1, 0, 0);
        x.sitter(0, 0, 5, 2);
        x.seat(0, 0);
        x.seat(1, 8);
        x.seat(2, 7);
        Check.rule(x, "passes 0; passes 2 if sitter = 0 and other = 1");
        due("a seating there is", x.pleased(1, 0), 3);
        due("it can't come about", x.exchanges(1, 0), NONE);
        due("nor its first two", x.exchanges(1, 1), NONE);
        due("0 behind: none", x.exchanges(0, 0), 0);
        noRefusal(x);
    }

    @Sentence(promises = {25}, words = "PLEASED behind n MINUTES 0 .. 9")
    static void exchangesAtTheirEnds(SteamNations x) {
        x.sitter(99, 0, 0, 0);
        x.sitter(0, 9, 0, 0);
        x.seat(0, 3);
        x.seat(1, 0);
        Check.rule(x, "passes 0; passes 1 if sitter = 0 and tier = 0");
        due("8: none", x.exchanges(8, 0), 0);
        due("9: one", x.exchanges(9, 0), 1);
        int[] beyond = {-1, 10, LOW, HIGH};
        for (int n : beyond) {
            due("n " + n, x.exchanges(n, 0), NONE);
        }
        int[] noWhat = {-1, 2, LOW, HIGH};
        for (int what : noWhat) {
            due("what " + what, x.exchanges(8, what), NONE);
            due("what " + what + " at 9", x.exchanges(9, what), NONE);
        }
        noRefusal(x);
    }

    @Sentence(promises = {25}, words = "the first two of the first such row (as ten times the lower SITTER and the higher one; rows by these numbers)")
    static void firstTwoOfAlikeRows(SteamNations x) {
        // 1 sits in the middle tier and is blue, as it wishes, where it is in another one: two ways lead there.
        x.sitter(0, 0, 9, 2);
        x.sitter(2, 1, 0, 1);
        x.sitter(0, 0, 9, 2);
        x.seat(2, 0);
        x.seat(1, 3);
        x.seat(0, 6);
        Check.rule(x, "passes 0; passes 2 if sitter = 1 and not tier = 1");
        due("one", x.exchanges(1, 0), 1);
        due("with 0, not with 2 on the lower seat", x.exchanges(1, 1), 1);
        x.swap(0, 2);
        due("with 0, then too", x.exchanges(1, 1), 1);
        x.out(0);
        due("with 2", x.exchanges(1, 1), 12);
        SteamNations y = new SteamNations();
        int[] seats = {6, 7, 8, 5, 0, 3};
        for (int p = 0; p < 6; p++) {
            y.sitter(p == 5 ? 2 : 0, p == 5 ? 1 : 0, p == 5 ? 0 : 9, p == 5 ? 1 : 2);
            y.seat(p, seats[p]);
        }
        Check.rule(y, "passes 0; passes 2 if sitter = 5 and tier = 0");
        due("the highest two", y.exchanges(1, 1), 45);
    }

    @Sentence(promises = {25}, words = "EXCHANGES: the fewest SWAPS of two BESIDE one another by which a SEATING comes about by which so many are")
    static void fewestOfManyExchanges(SteamNations x) {
        // 5 is at an end of a line of six, and is blue, as it wishes, at the other end alone.
        int[] seats = {0, 3, 6, 7, 8, 5};
        for (int p = 0; p < 6; p++) {
            x.sitter(p == 5 ? 2 : 0, p == 5 ? 1 : 0, p == 5 ? 0 : 9, p == 5 ? 1 : 2);
        }
        for (int p = 0; p < 6; p++) {
            x.seat(p, seats[p]);
        }
        Check.rule(x, "passes 0; passes 2 if sitter = 5 and tier = 0");
        for (int left = 5; left > 0; left--) {
            due("left", x.exchanges(1, 0), left);
            due("with the next", x.exchanges(1, 1), 10 * (left - 1) + 5);
            x.swap(5, left - 1);
        }
        due("none is left", x.exchanges(1, 0), 0);
        due("none is needed", x.exchanges(1, 1), NONE);
    }

    @Sentence(promises = {26}, words = "SEEN, 6 at most: n MINUTES 0 .. 9 on a SITTER was a NATION.")
    static void sixSeen(SteamNations x) {
        x.sitter(1, 0, 0, 0);
        int[] beyond = {-1, 10, LOW, HIGH};
        for (int n : beyond) {
            due("n " + n, x.seen(0, n, 0), -1);
        }
        int[] noNation = {-1, 3, LOW, HIGH};
        for (int nation : noNation) {
            due("nation " + nation, x.seen(0, 0, nation), -1);
        }
        due("0 on", x.seen(0, 0, 0), 1);
        due("9 on", x.seen(0, 9, 0), 2);
        due("nation 2", x.seen(0, 0, 2), 3);
        due("the same again", x.seen(0, 0, 2), 4);
        due("the fifth", x.seen(0, 5, 1), 5);
        due("the sixth", x.seen(0, 5, 1), 6);
        due("the seventh", x.seen(0, 5, 1), -5);
        due("seen", x.count(2), 6);
        due("refused by -1, -5", x.count(6) * 10 + x.count(9), 81);
    }

    @Sentence(promises = {26}, words = "SEEN: how often there was. -1 (MINUTES, the NATION); -2; -5.")
    static void seenRefusedInOrder(SteamNations x) {
        due("nobody, no minute", x.seen(0, 10, 0), -1);
        due("nobody, no nation", x.seen(0, 0, 3), -1);
        due("nobody", x.seen(0, 0, 0), -2);
        x.sitter(1, 0, 0, 0);
        for (int i = 1; i <= 6; i++) {
            due("seen", x.seen(0, 0, 0), i);
        }
        int[] nobody = {-1, 1, 6, LOW, HIGH};
        for (int p : nobody) {
            due("nobody, no room, no minute: " + p, x.seen(p, -1, 0), -1);
            due("nobody, no room: " + p, x.seen(p, 9, 2), -2);
        }
        due("its refusal", x.status(), -2);
        due("no room", x.seen(0, 9, 2), -5);
        due("its refusal", x.status(), -5);
        due("no room, no nation", x.seen(0, 9, -1), -1);
    }

    @Sentence(promises = {27}, words = "SEEN is nothing then: how often there was.")
    static void forgetNothing(SteamNations x) {
        due("nothing", x.forget(), 0);
        x.sitter(1, 0, 0, 0);
        for (int i = 1; i <= 6; i++) {
            x.seen(0, 0, 1);
        }
        due("none would be so", x.sat(NONE, 0), 0);
        due("six", x.forget(), 6);
        due("nothing then", x.count(2), 0);
        due("all would be so", x.sat(NONE, 0), 1);
        due("nothing again", x.forget(), 0);
        due("room again", x.seen(0, 0, 0), 1);
    }

    @Sentence(promises = {28}, words = "SAT: how many SEATINGS (i NONE), in the i-th the SEAT of a SITTER (NONE: OUT). NONE.")
    static void satOfNone(SteamNations x) {
        due("nobody: one seating", x.sat(NONE, 0), 1);
        due("nobody in it", x.sat(0, 0), NONE);
        Check.sitters(x, 5, 0, 0, 5, 0, 0, 5, 0, 0);
        x.seat(0, 4);
        x.seat(1, 2);
        due("two", x.sat(NONE, 0), 2);
        due("row 0", x.sat(0, 0) * 10 + x.sat(0, 1), 24);
        due("row 1", x.sat(1, 0) * 10 + x.sat(1, 1), 42);
        due("OUT", x.sat(1, 2), NONE);
        int[] beyond = {2, -2, LOW, HIGH};
        for (int i : beyond) {
            due("row " + i, x.sat(i, 0), NONE);
        }
        int[] nobody = {-1, 3, 6, LOW, HIGH};
        for (int p : nobody) {
            due("nobody: " + p, x.sat(0, p), NONE);
        }
        noRefusal(x);
        x.seen(0, 0, 1);
        due("none would be so", x.sat(NONE, 0), 0);
        due("no row 0", x.sat(0, 0), NONE);
    }

    @Sentence(promises = {26, 28}, words = "SAT: SEATINGS from which all SEEN would be so.")
    static void satByWhatIsSeenNineMinutesOn(SteamNations x) {
        x.sitter(99, 0, 0, 0);
        x.sitter(0, 9, 0, 0);
        x.seat(0, 0);
        x.seat(1, 3);
        Check.rule(x, "passes 0; passes 1 if sitter = 0 and tier = 0");
        x.seen(1, 8, 1);
        due("8 on: in both", x.sat(NONE, 0), 2);
        x.seen(1, 9, 0);
        due("9 on: in the first", x.sat(NONE, 0), 1);
        due("its row", x.sat(0, 0) * 10 + x.sat(0, 1), 3);
        x.seen(0, 9, 0);
        due("0, 9 on", x.sat(NONE, 0), 1);
        x.seen(1, 0, 1);
        due("0 on", x.sat(NONE, 0), 1);
        x.seen(1, 9, 1);
        due("both can't be", x.sat(NONE, 0), 0);
    }

    @Sentence(promises = {29}, words = "To ASK, n MINUTES 0 .. 9 on: the SITTER (what 0), how many SEATINGS are left at most (1). NONE (no SEATINGS, no SITTERS).")
    static void askNobody(SteamNations x) {
        due("no sitters", x.ask(0, 0), NONE);
        due("no sitters, left", x.ask(0, 1), NONE);
        x.sitter(99, 0, 0, 0);
        x.sitter(0, 9, 0, 0);
        due("all OUT: the lowest", x.ask(9, 0), 0);
        due("all OUT: one is left", x.ask(9, 1), 1);
        x.seat(0, 0);
        x.seat(1, 3);
        Check.rule(x, "passes 0; passes 1 if sitter = 0 and tier = 0");
        due("8 on: the lowest", x.ask(8, 0), 0);
        due("8 on: two are left", x.ask(8, 1), 2);
        due("9 on: who differs", x.ask(9, 0), 1);
        due("9 on: one is left", x.ask(9, 1), 1);
        int[] beyond = {-1, 10, LOW, HIGH};
        for (int n : beyond) {
            due("n " + n, x.ask(n, 0), NONE);
            due("n " + n, x.ask(n, 1), NONE);
        }
        int[] noWhat = {-1, 2, LOW, HIGH};
        for (int what : noWhat) {
            due("what " + what, x.ask(9, what), NONE);
        }
        noRefusal(x);
        x.seen(0, 0, 2);
        due("no seatings", x.ask(9, 0), NONE);
        due("no seatings, left", x.ask(9, 1), NONE);
    }

    @Sentence(promises = {29}, words = "the SITTER of whom the most of these SEATINGS would make the same NATION is least; the lowest")
    static void askTheLowestOfAlikeOnes(SteamNations x) {
        x.sitter(50, 0, 0, 0);
        x.sitter(0, 1, 0, 0);
        x.sitter(0, 1, 0, 0);
        x.seat(0, 0);
        x.seat(1, 1);
        x.seat(2, 2);
        Check.rule(x, "passes 0; passes 9 if sitter = 0");
        // 1 is red where it is beside 0: in four of the six rows; so is 2.
        due("now: all are left", x.ask(0, 1), 6);
        due("now: the lowest", x.ask(0, 0), 0);
        due("1 on: left", x.ask(1, 1), 4);
        due("1 on: the lower of two", x.ask(1, 0), 1);
    }

    @Sentence(promises = {29}, words = "the most of these SEATINGS would make the same NATION")
    static void askOfTheLastNation(SteamNations x) {
        // 0 is green now; it is red one minute on: at an end it has one of each then, in the middle a red alone.
        x.sitter(1, 0, 2, 0);
        x.sitter(0, 0, 9, 0);
        x.sitter(0, 0, 9, 0);
        x.seat(0, 0);
        x.seat(1, 1);
        x.seat(2, 2);
        Check.rule(x, "passes 0; passes 1 if sitter = 0; keeps if sitter > 0");
        due("now: green in all", x.ask(0, 1), 6);
        due("1 on: 0 is red in all, the others green", x.ask(1, 1), 6);
        x.out(2);
        due("two seatings: green in both", x.ask(0, 1), 2);
        x.seen(0, 0, 2);
        due("seen green", x.sat(NONE, 0), 2);
        x.seen(0, 1, 0);
        due("seen red then", x.sat(NONE, 0), 2);
    }

    // Treaty, drop, few, compare

    @Sentence(promises = {30}, words = "A TREATY of k PARTS 1 .. 99: how many (what 0), who, as bits (1). NONE.")
    static void treatyAtItsEnds(SteamNations x) {
        due("nobody", x.treaty(1, 0), 0);
        due("nobody's bits", x.treaty(1, 1), 0);
        x.sitter(0, 0, 0, 0);
        due("one alone, of nothing", x.treaty(99, 0), 1);
        due("one alone: bits", x.treaty(99, 1), 1);
        x.sitter(99, 0, 0, 0);
        x.sitter(99, 1, 0, 0);
        x.sitter(98, 0, 0, 0);
        due("99", x.treaty(99, 1), 6);
        due("98", x.treaty(98, 1), 14);
        due("1", x.treaty(1, 1), 14);
        int[] beyond = {0, 100, -1, LOW, HIGH};
        for (int k : beyond) {
            due("k " + k, x.treaty(k, 0), NONE);
            due("k " + k, x.treaty(k, 1), NONE);
        }
        int[] noWhat = {-1, 2, LOW, HIGH};
        for (int what : noWhat) {
            due("what " + what, x.treaty(1, what), NONE);
        }
        noRefusal(x);
    }

    @Sentence(promises = {30}, words = "the most SITTERS any two of whom have k PARTS in common or more (of each NATION the fewer of both, together); the lowest as bits")
    static void treatyOfExactlySoMany(SteamNations x) {
        x.sitter(3, 2, 1, 0);
        x.sitter(1, 1, 9, 0);
        x.sitter(0, 9, 0, 0);
        x.sitter(0, 9, 0, 0);
        // In common: 0-1 1+1+1, 0-2 2, 0-3 2, 1-2 1, 1-3 1, 2-3 9.
        due("1: all", x.treaty(1, 1), 15);
        due("2", x.treaty(2, 1), 1 + 4 + 8);
        due("3: exactly, the lowest of two", x.treaty(3, 1), 3);
        due("4", x.treaty(4, 1), 4 + 8);
        due("9: exactly", x.treaty(9, 0), 2);
        due("10: one alone, the lowest", x.treaty(10, 0) * 10 + x.treaty(10, 1), 11);
        x.sitter(99, 99, 99, 0);
        x.sitter(99, 99, 99, 0);
        due("the highest bits", x.treaty(99, 1), 16 + 32);
        SteamNations y = new SteamNations();
        for (int p = 0; p < 6; p++) {
            y.sitter(33, 33, 33, 0);
        }
        due("all six", y.treaty(99, 0), 6);
        due("all six bits", y.treaty(99, 1), 63);
    }

    @Sentence(promises = {31}, words = "A DROP with one behind n MINUTES 0 .. 60: how much another one (or itself) has. NONE (one of them has no SEAT; others).")
    static void dropAtItsEnds(SteamNations x) {
        due("nobody", x.drop(0, 0, 0), NONE);
        Check.sitters(x, 0, 0, 0, 0, 0, 0, 0, 0, 0);
        due("OUT, itself", x.drop(0, 0, 0), NONE);
        x.seat(0, 0);
        due("itself, at once", x.drop(0, 0, 0), 1000000);
        due("alone, at 60", x.drop(0, 60, 0), 1000000);
        due("to one OUT", x.drop(0, 0, 1), NONE);
        due("from one OUT", x.drop(1, 0, 0), NONE);
        x.seat(1, 1);
        due("another, at once", x.drop(0, 0, 1), 0);
        due("another, 1 on", x.drop(0, 1, 1), 100000);
        int[] beyond = {-1, 61, LOW, HIGH};
        for (int n : beyond) {
            due("n " + n, x.drop(0, n, 0), NONE);
        }
        int[] nobody = {-1, 3, 6, LOW, HIGH};
        for (int p : nobody) {
            due("to nobody: " + p, x.drop(0, 0, p), NONE);
            due("from nobody: " + p, x.drop(p, 0, 0), NONE);
        }
        due("all of it, 60 on", x.drop(0, 60, 0) + x.drop(0, 60, 1), 1000000);
        x.seat(2, 8);
        due("one who is beside nobody", x.drop(0, 60, 2), 0);
        noRefusal(x);
    }

    @Sentence(promises = {31}, words = "each gives a tenth (cut) of what it has of it to each BESIDE, all as it was ahead")
    static void tenthsAreCut(SteamNations x) {
        // A row of six; a tenth of what the last but one has first comes to the last at 5, and it is ten.
        Check.sitters(x, 0, 0, 0, 0, 0, 0, 0, 0, 0, 0, 0, 0, 0, 0, 0, 0, 0, 0);
        int[] seats = {0, 1, 2, 5, 8, 7};
        for (int p = 0; p < 6; p++) {
            x.seat(p, seats[p]);
        }
        long[] has = {0, 1000000, 0, 0, 0, 0, 0, 0};
        for (int n = 0; n <= 60; n++) {
            long[] next = new long[8];
            for (int p = 1; p <= 6; p++) {
                due("sitter " + (p - 1) + " at " + n, x.drop(0, n, p - 1), has[p]);
                next[p] = has[p] - (p > 1 ? has[p] / 10 : 0) - (p < 6 ? has[p] / 10 : 0) + has[p - 1] / 10 + has[p + 1] / 10;
            }
            has = next;
        }
        int[] first = {1000000, 100000, 10000, 1000, 100, 10};
        for (int p = 0; p < 6; p++) {
            due("first comes to " + p, x.drop(0, p, p), first[p]);
            due("first comes from 5 to " + (5 - p), x.drop(5, p, 5 - p), first[p]);
            if (p > 0) {
                due("not yet to " + p, x.drop(0, p - 1, p), 0);
            }
        }
    }

    @Sentence(promises = {31}, words = "a tenth (cut) of what it has of it to each BESIDE")
    static void tenthsToFourBeside(SteamNations x) {
        Check.sitters(x, 0, 0, 0, 0, 0, 0, 0, 0, 0, 0, 0, 0, 0, 0, 0);
        int[] seats = {4, 1, 3, 5, 7};
        for (int p = 0; p < 5; p++) {
            x.seat(p, seats[p]);
        }
        int middle = 1000000;
        int each = 0;
        for (int n = 0; n <= 60; n++) {
            due("in the middle at " + n, x.drop(0, n, 0), middle);
            due("beside it at " + n, x.drop(0, n, 4), each);
            int given = middle / 10 - each / 10;
            middle -= 4 * given;
            each += given;
        }
    }

    @Sentence(promises = {32}, words = "FEW, k 1 .. 20, n 0 .. 99. NONE.")
    static void fewAtItsEnds(SteamNations x) {
        int[] noK = {0, 21, -1, LOW, HIGH};
        for (int k : noK) {
            due("k " + k, x.few(k, 1), NONE);
        }
        int[] noN = {-1, 100, LOW, HIGH};
        for (int n : noN) {
            due("n " + n, x.few(1, n), NONE);
        }
        due("k 1 of 0", x.few(1, 0), WHOLE);
        due("k 20 of 0", x.few(20, 0), WHOLE);
        due("k 20 of 19", x.few(20, 19) > WHOLE - 1000 && x.few(20, 19) <= WHOLE ? 1 : 0, 1);
        due("k 20 of 99: most of the time", x.few(20, 99) > WHOLE / 2 && x.few(20, 99) < WHOLE ? 1 : 0, 1);
        noRefusal(x);
    }

    @Sentence(promises = {32}, words = "each of whom faints in FAINT of ten, fewer than k do: each part is cut")
    static void noneOrAllFaint(SteamNations x) {
        x.terms(1, 0);
        due("none faints", x.few(1, 99), WHOLE);
        due("none faints, k 20", x.few(20, 99), WHOLE);
        x.terms(1, 10);
        due("all faint: nobody there", x.few(1, 0), WHOLE);
        due("all faint: one there", x.few(1, 1), 0);
        due("all faint: 19 are fewer than 20", x.few(20, 19), WHOLE);
        due("all faint: 20 are not", x.few(20, 20), 0);
        due("all faint: 99", x.few(20, 99), 0);
        x.terms(1, 9);
        due("a tenth, twelve times", x.few(1, 12), 1);
        due("a tenth, thirteen times: cut", x.few(1, 13), 0);
        due("a tenth, 99 times", x.few(1, 99), 0);
        x.terms(1, 1);
        long none = WHOLE;
        for (int n = 1; n <= 99; n++) {
            none = none * 9 / 10;
            due("none of " + n, x.few(1, n), none);
        }
    }

    @Sentence(promises = {33}, words = "COMPARED. NONE (no such LAW, n).")
    static void compareAtItsEnds(SteamNations x) {
        due("nobody", x.compare(NONE, 0), 0);
        due("no law", x.compare(0, 0), NONE);
        redByRed(x, 60);
        due("now", x.compare(0, 0), 1);
        due("59 on", x.compare(0, 59), 1);
        due("60 on", x.compare(0, 60), 2);
        int[] beyond = {-1, 61, LOW, HIGH};
        for (int n : beyond) {
            due("n " + n, x.compare(0, n), NONE);
            due("none, n " + n, x.compare(NONE, n), NONE);
        }
        int[] noLaw = {-2, 1, 6, LOW, HIGH};
        for (int law : noLaw) {
            due("law " + law, x.compare(law, 0), NONE);
        }
        noRefusal(x);
    }

    @Sentence(promises = {33}, words = "COMPARED: how many are what they WISH n MINUTES 0 .. 60 on by a LAW in place of that in FORCE (NONE: none).")
    static void compareWithNone(SteamNations x) {
        x.sitter(3, 0, 0, 0);
        x.sitter(0, 3, 0, 0);
        x.seat(0, 0);
        x.seat(1, 1);
        Check.rule(x, "passes 9; keeps if sitter = 1");
        due("that in force", x.compare(0, 1), 2);
        due("none: no clause", x.compare(NONE, 1), 1);
        x.force(NONE);
        due("another than that in force", x.compare(0, 1), 2);
        due("in force as it was", x.count(11), NONE);
        due("parts as they were", x.of(0, 0), 3);
    }

    // Questions asked again

    @Sentence(promises = {24, 28}, words = "SEATINGS: all who have a SEAT on the SEATS that are taken")
    static void askedAgainBehindWhatTold0(SteamNations x) {
        due("nobody", x.pleased(9, 0), 0);
        due("sitter 0", x.sitter(1, 0, 0, 0), 0);
        due("one is what it wishes", x.pleased(9, 0), 1);
        x.seat(0, 0);
        due("on seat 0", x.sat(0, 0), 0);
        due("out of seat 0", x.out(0), 0);
        due("OUT", x.sat(0, 0), NONE);
        x.seat(0, 5);
        due("on seat 5", x.sat(0, 0), 5);
        due("a seat is undone", x.undo(), 0);
        due("OUT again", x.sat(0, 0), NONE);
        x.image(0);
        x.seat(0, 6);
        due("on seat 6", x.pleased(0, 1), 6);
        due("back", x.back(0), 0);
        due("OUT, as it was kept", x.pleased(0, 1), NONE);
        x.seat(0, 7);
        due("on seat 7", x.pleased(0, 1), 7);
    }

    @Sentence(promises = {24, 25, 28, 29}, words = "PLEASED behind n MINUTES 0 .. 9")
    static void askedAgainBehindLawsAndTerms(SteamNations x) {
        x.sitter(9, 0, 0, 0);
        x.sitter(0, 3, 0, 0);
        x.seat(0, 0);
        x.seat(1, 1);
        Check.law(x, "passes 0; passes 4 if sitter = 0 and mood = 1 and minute < 5");
        due("no law: 1 stays blue behind one", x.pleased(1, 0), 1);
        due("none in force was", x.force(0), NONE);
        due("mood 0", x.pleased(1, 0), 1);
        due("mood was 0", x.terms(2, 1), 0);
        due("mood 1", x.pleased(1, 0), 2);
        due("minute was 0", x.terms(0, 5), 0);
        due("minute 5", x.pleased(1, 0), 1);
        x.terms(0, 4);
        due("minute 4", x.pleased(1, 0), 2);
        due("0 was in force", x.force(NONE), 0);
        due("no law again", x.pleased(1, 0), 1);
        x.force(0);
        due("that law again", x.pleased(1, 0), 2);
        x.pass();
        due("behind a minute: it is that now", x.pleased(0, 0), 2);
        x.undo();
        due("it is not, undone", x.pleased(0, 0), 1);
        Check.orders(x, "pass");
        due("by orders, too", x.pleased(0, 0), 2);
    }

    @Sentence(promises = {28, 29}, words = "To ASK, n MINUTES on: the SITTER of whom the most of these SEATINGS would make the same NATION is least; the lowest.")
    static void askOfTheSeatingsThatAreLeft(SteamNations x) {
        // 0 makes red who sits beside it: 1 in four rows of six, 2 in four.
        x.sitter(50, 0, 0, 0);
        x.sitter(0, 1, 0, 0);
        x.sitter(0, 1, 0, 0);
        x.seat(0, 0);
        x.seat(1, 1);
        x.seat(2, 2);
        Check.rule(x, "passes 0; passes 9 if sitter = 0");
        due("all six", x.ask(1, 0) * 10 + x.ask(1, 1), 14);
        x.seen(1, 1, 0);
        due("1 was red: four are left", x.sat(NONE, 0), 4);
        due("0 is red in all of these, 1 too, 2 in two", x.ask(1, 0) * 10 + x.ask(1, 1), 22);
        due("now: all alike, the lowest", x.ask(0, 0) * 10 + x.ask(0, 1), 4);
        x.seen(2, 1, 0);
        due("2 was red, too: 0 in the middle", x.sat(NONE, 0), 2);
        due("nobody differs: the lowest", x.ask(1, 0) * 10 + x.ask(1, 1), 2);
        x.forget();
        due("all six again", x.ask(1, 0) * 10 + x.ask(1, 1), 14);
    }

    @Sentence(promises = {24, 33}, words = "how many are what they WISH n MINUTES 0 .. 60 on")
    static void sixAreWhatTheyWish(SteamNations x) {
        for (int p = 0; p < 6; p++) {
            x.sitter(p % 3 == 0 ? 9 : 0, p % 3 == 1 ? 9 : 0, p % 3 == 2 ? 9 : 0, p % 3);
            x.seat(p, p);
        }
        Check.rule(x, "passes 0");
        due("compared", x.compare(0, 60), 6);
        due("pleased", x.pleased(9, 0), 6);
        due("by a word of orders", Check.orders(x, "pass if pleased=6 and inside=6"), 1);
        due("mornings", x.mornings(0, 60), 6);
        due("all bits but those of no nation in common", x.treaty(9, 1), 1 + 8);
    }

    @Sentence(promises = {23}, words = "ONE. NONE (not in 60).")
    static void oneNotInSixty(SteamNations x) {
        redByRed(x, 61);
        due("not in 60", x.one(), NONE);
        x.pass();
        due("a minute on: in 60", x.one(), 60);
        x.undo();
        due("not in 60 again", x.one(), NONE);
        noRefusal(x);
    }

    @Sentence(promises = {31}, words = "in each of n MINUTES (SEATS as now)")
    static void dropBySeatsAsNow(SteamNations x) {
        Check.sitters(x, 5, 0, 0, 0, 0, 0);
        x.seat(0, 0);
        x.seat(1, 1);
        Check.rule(x, "passes 9; keeps; leaves");
        due("who must leave, who keeps: no matter", x.drop(0, 2, 1), 180000);
        x.seat(1, 2);
        due("not beside it now", x.drop(0, 60, 1), 0);
        x.seat(1, 3);
        due("beside it again", x.drop(0, 2, 1), 180000);
        due("parts are no matter", x.drop(1, 2, 0), 180000);
    }

    @Sentence(promises = {32}, words = "FEW: the chance, of 1,000,000,000,000 parts, that of n sitters")
    static void fewOfAsMany(SteamNations x) {
        x.terms(1, 5);
        long none = WHOLE;
        for (int n = 1; n <= 12; n++) {
            none /= 2;
            due("none of " + n, x.few(1, n), none);
            // A half of each part is not cut up to 12 times: the chances are whole numbers.
            due("fewer than all of " + n, x.few(n, n), WHOLE - none);
            due("as many or fewer of " + n, x.few(n + 1, n), WHOLE);
        }
        due("none but one of 2", x.few(2, 2), 750000000000L);
        due("fewer than ten of nine", x.few(10, 9), WHOLE);
        due("how many there are in the room is no matter", x.count(0), 0);
    }
}
