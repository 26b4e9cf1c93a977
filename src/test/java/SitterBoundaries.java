/** Boundaries of promises 1 to 6: the room, its sitters, who is beside whom, the terms. */
final class SitterBoundaries {
    private static final int NONE = SteamNations.NONE;
    private static final int LOW = Integer.MIN_VALUE;
    private static final int HIGH = Integer.MAX_VALUE;

    private SitterBoundaries() {
    }

    private static void due(String what, long got, long want) {
        Check.due(what, got, want);
    }

    @Sentence(promises = {1, 38}, words = "SteamNations(): An empty room.")
    static void emptyRoom(SteamNations x) {
        int[] counts = {0, 0, 0, 0, 0, 0, 0, 0, 0, 0, 0, NONE, 0, 1, 0, 0, 0, 0};
        for (int what = 0; what < counts.length; what++) {
            due("count(" + what + ")", x.count(what), counts[what]);
        }
        for (int seat = -1; seat <= 9; seat++) {
            due("at(" + seat + ")", x.at(seat), NONE);
        }
    }

    @Sentence(promises = {2}, words = "SITTERS 0 .. 5 (6 at most)")
    static void sixSittersAtMost(SteamNations x) {
        for (int p = 0; p < 6; p++) {
            due("sitter", x.sitter(p, 0, 0, 0), p);
        }
        due("the seventh", x.sitter(6, 0, 0, 0), -5);
        due("its refusal", x.status(), -5);
        due("refused by -5", x.count(9), 1);
        due("sitters", x.count(0), 6);
        due("all red", x.count(15), 15);
        due("the sixth", x.of(5, 0), 5);
        due("there is no seventh", x.of(6, 0), NONE);
    }

    @Sentence(promises = {2}, words = "PARTS of NATIONS 0, 1, 2 (0 .. 99 each, told)")
    static void partsTold(SteamNations x) {
        int[] beyond = {-1, 100, LOW, HIGH};
        for (int wrong : beyond) {
            due("red " + wrong, x.sitter(wrong, 0, 0, 0), -1);
            due("blue " + wrong, x.sitter(0, wrong, 0, 0), -1);
            due("green " + wrong, x.sitter(0, 0, wrong, 0), -1);
        }
        due("nobody came", x.count(0), 0);
        due("refused by -1", x.count(6), 12);
        due("nothing", x.sitter(0, 0, 0, 0), 0);
        due("the most", x.sitter(99, 99, 99, 0), 1);
        due("its green", x.of(1, 2), 99);
    }

    @Sentence(promises = {2, 19}, words = "PARTS of NATIONS 0, 1, 2 (0 .. 99 each, told)")
    static void partsPassedGoBeyond99(SteamNations x) {
        Check.sitters(x, 99, 0, 0, 9, 0, 0);
        x.seat(0, 0);
        x.seat(1, 1);
        Check.rule(x, "passes 9; keeps if sitter = 0");
        x.pass();
        due("more than are told", x.of(0, 0), 108);
    }

    @Sentence(promises = {2}, words = "a WISH: a NATION")
    static void wishes(SteamNations x) {
        int[] beyond = {-1, 3, LOW, HIGH};
        for (int wrong : beyond) {
            due("wish " + wrong, x.sitter(1, 1, 1, wrong), -1);
        }
        due("the lowest", x.sitter(1, 1, 1, 0), 0);
        due("the highest", x.sitter(1, 1, 1, 2), 1);
        due("it is that", x.of(1, 3), 2);
    }

    @Sentence(promises = {2, 3}, words = "a SEAT (each its own), or OUT (NONE, at first)")
    static void outAtFirst(SteamNations x) {
        x.sitter(1, 1, 1, 0);
        x.sitter(1, 1, 1, 0);
        due("seat", x.of(0, 4), NONE);
        due("how many have seats", x.count(1), 0);
        x.seat(0, 0);
        due("the next has its own", x.seat(1, 0), -3);
        due("and stays OUT", x.of(1, 4), NONE);
    }

    @Sentence(promises = {2}, words = "A SITTER, OUT: the number. -1; -5.")
    static void sitterCantBeAndNoRoom(SteamNations x) {
        Check.fullRoom(x);
        due("can't be, though there is no room", x.sitter(100, 0, 0, 0), -1);
        due("its wish can't be", x.sitter(0, 0, 0, 3), -1);
        due("no room", x.sitter(0, 0, 0, 0), -5);
    }

    @Sentence(promises = {3}, words = "A SITTER IS the NATION of which it has the most PARTS (the lowest of alike ones).")
    static void lowestOfAlikeNations(SteamNations x) {
        int[][] parts = {{0, 0, 0}, {7, 7, 7}, {7, 7, 0}, {7, 0, 7}, {0, 7, 7}, {6, 6, 7}};
        int[] is = {0, 0, 0, 0, 1, 2};
        for (int p = 0; p < 6; p++) {
            x.sitter(parts[p][0], parts[p][1], parts[p][2], 0);
            due("sitter " + p, x.of(p, 5), is[p]);
        }
    }

    @Sentence(promises = {3}, words = "Of a SITTER PARTS of NATION n 0 .. 2 (what n)")
    static void ofWhatIsNot(SteamNations x) {
        due("there is nobody", x.of(0, 0), NONE);
        x.sitter(1, 2, 3, 1);
        x.seat(0, 8);
        due("what 0", x.of(0, 0), 1);
        due("what 2", x.of(0, 2), 3);
        due("what -1", x.of(0, -1), NONE);
        due("what 8", x.of(0, 8), NONE);
        due("what low", x.of(0, LOW), NONE);
        due("what high", x.of(0, HIGH), NONE);
        for (int what = 0; what < 8; what++) {
            due("sitter -1", x.of(-1, what), NONE);
            due("sitter 1", x.of(1, what), NONE);
            due("sitter low", x.of(LOW, what), NONE);
            due("sitter high", x.of(HIGH, what), NONE);
        }
        due("no refusal", x.status() + x.count(6), 0);
    }

    @Sentence(promises = {3}, words = "the SEAT (4; NONE: OUT)")
    static void seatOfOneOut(SteamNations x) {
        x.sitter(1, 2, 3, 1);
        due("OUT", x.of(0, 4), NONE);
        x.seat(0, 0);
        due("seat 0", x.of(0, 4), 0);
        x.seat(0, 8);
        due("seat 8", x.of(0, 4), 8);
        x.out(0);
        due("OUT again", x.of(0, 4), NONE);
    }

    @Sentence(promises = {3}, words = "whether it KEEPS all (6: 1, 0; -1: OUT)")
    static void keepsOfOneOut(SteamNations x) {
        x.sitter(1, 2, 3, 1);
        due("OUT, no law", x.of(0, 6), -1);
        Check.rule(x, "keeps if tier = 2");
        due("OUT", x.of(0, 6), -1);
        x.seat(0, 5);
        due("keeps not", x.of(0, 6), 0);
        x.seat(0, 6);
        due("keeps", x.of(0, 6), 1);
        x.force(NONE);
        due("no law in force", x.of(0, 6), 0);
    }

    @Sentence(promises = {3}, words = "must LEAVE (7: 1, 0; -1: OUT)")
    static void leavesOfOneOut(SteamNations x) {
        x.sitter(1, 2, 3, 1);
        due("OUT, no law", x.of(0, 7), -1);
        Check.rule(x, "leaves if tier = 0");
        due("OUT", x.of(0, 7), -1);
        x.seat(0, 3);
        due("stays", x.of(0, 7), 0);
        x.seat(0, 2);
        due("must leave", x.of(0, 7), 1);
        x.force(NONE);
        due("no law in force", x.of(0, 7), 0);
    }

    @Sentence(promises = {3, 11}, words = "\"keeps\", \"leaves\" of a SITTER (other -1)")
    static void otherOfKeepsAndLeaves(SteamNations x) {
        Check.sitters(x, 0, 0, 5, 0, 0, 5);
        x.seat(0, 0);
        x.seat(1, 1);
        Check.rule(x, "keeps if other = 0-1; leaves if other = 0-1; passes 5 if other < 0; passes 4 if other = 2");
        due("keeps", x.of(0, 6), 1);
        due("leaves", x.of(0, 7), 1);
        due("passes: what the one beside is", x.asks(0, 1), 4);
    }

    @Sentence(promises = {4, 16}, words = "SEATS 0 .. 8")
    static void nineSeats(SteamNations x) {
        x.sitter(0, 0, 0, 0);
        for (int seat = 0; seat < 9; seat++) {
            due("seat " + seat, x.seat(0, seat), 1);
            due("at " + seat, x.at(seat), 0);
        }
        due("seat 9", x.seat(0, 9), -1);
        due("seat -1", x.seat(0, -1), -1);
        due("seat low", x.seat(0, LOW), -1);
        due("seat high", x.seat(0, HIGH), -1);
        due("at 8, still", x.at(8), 0);
    }

    @Sentence(promises = {4}, words = "Who is on a SEAT. NONE.")
    static void atNoSeat(SteamNations x) {
        Check.sitters(x, 1, 0, 0, 1, 0, 0);
        x.seat(1, 0);
        due("at -1, where one is OUT", x.at(-1), NONE);
        due("at 0", x.at(0), 1);
        due("at 1, empty", x.at(1), NONE);
        due("at 8, empty", x.at(8), NONE);
        due("at 9", x.at(9), NONE);
        due("at low", x.at(LOW), NONE);
        due("at high", x.at(HIGH), NONE);
        due("no refusal", x.status() + x.count(6), 0);
    }

    @Sentence(promises = {5, 16},
            words = "of TIER 0 .. 2 (by 3, cut), PLACE 0 .. 2 (what is left)")
    static void noWayAroundTheEnds(SteamNations x) {
        Check.sitters(x, 2, 0, 0, 1, 1, 0);
        int[][] apart = {{2, 3}, {5, 6}, {0, 2}, {3, 5}, {6, 8}, {0, 6}, {1, 7}, {2, 8}, {0, 8}, {0, 4}, {2, 4}, {4, 6}, {4, 8}, {1, 3}};
        for (int[] two : apart) {
            sit(x, two);
            due("from " + two[0] + " to " + two[1], x.asks(0, 1), NONE);
            due("from " + two[1] + " to " + two[0], x.asks(1, 0), NONE);
            due("nothing is passed", x.later(0, 1, 0) * 10 + x.later(1, 1, 0), 21);
        }
        x.out(0);
        x.out(1);
        x.seat(0, 2);
        x.seat(1, 3);
        Check.rule(x, "passes 1+[tier*3]");
        due("tier of seat 2", x.seat(1, 1) * 10 + x.asks(0, 1), 21);
        x.seat(0, 4);
        due("tier of seat 4", x.asks(0, 1), 4);
        x.seat(0, 8);
        x.seat(1, 7);
        due("tier of seat 8", x.asks(0, 1), 7);
    }

    @Sentence(promises = {5},
            words = "BESIDE one another: of a TIER in PLACES next to one another, of a PLACE in TIERS next to one another.")
    static void besideAtTheEnds(SteamNations x) {
        Check.sitters(x, 1, 0, 0, 1, 0, 0);
        int[][] beside = {{0, 1}, {1, 2}, {3, 4}, {4, 5}, {6, 7}, {7, 8}, {0, 3}, {1, 4}, {2, 5}, {3, 6}, {4, 7}, {5, 8}};
        for (int[] two : beside) {
            sit(x, two);
            due("from " + two[0] + " to " + two[1], x.asks(0, 1), 1);
            due("from " + two[1] + " to " + two[0], x.asks(1, 0), 1);
        }
        for (int[] two : beside) {
            passed(two[0], two[1]);
            passed(two[1], two[0]);
        }
    }

    private static void passed(int from, int to) {
        SteamNations x = new SteamNations();
        Check.sitters(x, 1, 0, 0, 0, 0, 0);
        sit(x, new int[] {from, to});
        x.pass();
        due("passed from " + from + " to " + to, x.of(1, 0), 1);
    }

    private static void sit(SteamNations x, int[] two) {
        x.out(0);
        x.out(1);
        x.seat(0, two[0]);
        x.seat(1, two[1]);
    }

    @Sentence(promises = {5},
            words = "How many PARTS a SITTER PASSES to one BESIDE. NONE (they are not BESIDE one another).")
    static void asksOfThoseNotBeside(SteamNations x) {
        due("nobody", x.asks(0, 1), NONE);
        Check.sitters(x, 1, 0, 0, 1, 0, 0, 1, 0, 0);
        due("both OUT", x.asks(0, 1), NONE);
        x.seat(0, 0);
        due("the other OUT", x.asks(0, 1), NONE);
        due("the one OUT", x.asks(1, 0), NONE);
        due("itself", x.asks(0, 0), NONE);
        due("one OUT and itself", x.asks(2, 2), NONE);
        x.seat(1, 1);
        due("beside", x.asks(0, 1), 1);
        int[] nobody = {-1, 3, 6, LOW, HIGH};
        for (int p : nobody) {
            due("no such other: " + p, x.asks(0, p), NONE);
            due("no such one: " + p, x.asks(p, 0), NONE);
        }
        due("no refusal", x.status() + x.count(7), 0);
    }

    @Sentence(promises = {5, 11},
            words = "as many PARTS as the last \"passes\" that HOLDS tells, 0 .. 9 (else the nearest), 1 without")
    static void nearestOfWhatIsTold(SteamNations x) {
        Check.sitters(x, 1, 0, 0, 1, 0, 0);
        x.seat(0, 0);
        x.seat(1, 1);
        due("without a law", x.asks(0, 1), 1);
        Check.rule(x, "passes mood*1000-1; passes 9 if mood = 1; passes 10 if mood = 2; passes 0 if mood = 3; keeps");
        due("-1", x.asks(0, 1), 0);
        x.terms(2, 1);
        due("9", x.asks(0, 1), 9);
        x.terms(2, 2);
        due("10", x.asks(0, 1), 9);
        x.terms(2, 3);
        due("0", x.asks(0, 1), 0);
        x.terms(2, 4);
        due("3999", x.asks(0, 1), 9);
        Check.rule(x, "keeps; leaves");
        due("without a passes", x.asks(0, 1), 1);
        Check.rule(x, "passes 5 if mood = 0");
        due("without one that holds", x.asks(0, 1), 1);
        Check.rule(x, "passes 5; passes 6; passes 7 if mood = 0");
        due("the last that holds", x.asks(0, 1), 6);
        Check.rule(x, "passes 1000*1000*1000; passes 0-1000*1000*1000 if sitter = 1");
        due("the farthest up", x.asks(0, 1), 9);
        due("the farthest down", x.asks(1, 0), 0);
    }

    @Sentence(promises = {5, 11},
            words = "A CLAUSE HOLDS, if its \"if\" (if it has one) is so, and neither that nor its SUM is BROKEN.")
    static void brokenClausesDoNotHold(SteamNations x) {
        Check.sitters(x, 1, 0, 0, 1, 0, 0);
        x.seat(0, 0);
        x.seat(1, 1);
        Check.rule(x, "passes 6; passes 4/mood; passes 7 if 4%mood = 0; keeps if 1/mood = 1; leaves if not 1/mood = 0");
        due("broken: the one ahead holds", x.asks(0, 1), 6);
        due("keeps, broken", x.of(0, 6), 0);
        due("leaves, broken", x.of(0, 7), 0);
        x.terms(2, 1);
        due("not broken", x.asks(0, 1), 7);
        due("keeps", x.of(0, 6), 1);
        due("leaves", x.of(0, 7), 1);
        x.terms(2, 3);
        due("its if is not so", x.asks(0, 1), 1);
        due("keeps not", x.of(0, 6), 0);
    }

    @Sentence(promises = {5, 11}, words = "nation: what the SITTER IS, much: how many PARTS it has of that; tier: of its SEAT.")
    static void wordsOfOneOfNothing(SteamNations x) {
        x.sitter(0, 0, 0, 2);
        x.sitter(4, 99, 5, 1);
        x.seat(0, 0);
        x.seat(1, 1);
        Check.rule(x, "passes 0; passes 7 if nation = 0 and much = 0 and tier = 0 and wish = 2 and sitter = 0 and other = 1;"
                + "passes 8 if nation = 1 and much = 99 and tier = 0 and wish = 1 and sitter = 1 and other = 0;"
                + "passes 6 if tier = 2 and minute = 999 and mood = 9");
        due("one of nothing is nation 0", x.asks(0, 1), 7);
        due("one of the most parts", x.asks(1, 0), 8);
        x.seat(0, 8);
        x.seat(1, 7);
        due("others", x.asks(0, 1), 0);
        x.terms(0, 999);
        x.terms(2, 9);
        due("the last tier, the last minute, the highest mood", x.asks(0, 1), 6);
    }

    @Sentence(promises = {6}, words = "TERMS: 0 MINUTE 0 .. 999 (0 at first), 1 FAINT 0 .. 10 (1), 2 MOOD 0 .. 9 (0).")
    static void endsOfTerms(SteamNations x) {
        int[] first = {0, 1, 0};
        int[] most = {999, 10, 9};
        for (int what = 0; what < 3; what++) {
            due("at first", x.count(12 + what), first[what]);
            due("the highest", x.terms(what, most[what]), first[what]);
            due("beyond it", x.terms(what, most[what] + 1), -1);
            due("below 0", x.terms(what, -1), -1);
            due("low", x.terms(what, LOW), -1);
            due("high", x.terms(what, HIGH), -1);
            due("as it was", x.count(12 + what), most[what]);
            due("the lowest", x.terms(what, 0), most[what]);
            due("it is that", x.count(12 + what), 0);
        }
        due("refused by -1", x.count(6), 12);
    }

    @Sentence(promises = {6}, words = "A TERM: what it was. -1.")
    static void noSuchTerm(SteamNations x) {
        int[] beyond = {-1, 3, LOW, HIGH};
        for (int what : beyond) {
            due("term " + what, x.terms(what, 0), -1);
            due("its refusal", x.status(), -1);
        }
        due("the same again", x.terms(1, 1), 1);
        due("not refused", x.status(), 0);
    }

    @Sentence(promises = {3, 11}, words = "it KEEPS all, if \"keeps\" HOLDS; it must LEAVE, if \"leaves\" HOLDS.")
    static void oneOfManyHolds(SteamNations x) {
        x.sitter(1, 0, 0, 0);
        x.seat(0, 0);
        StringBuilder law = new StringBuilder("passes 1");
        for (int mood = 0; mood < 5; mood++) {
            law.append(";keeps if mood=").append(mood).append(";leaves if mood=").append(mood + 4);
        }
        Check.rule(x, law.toString());
        for (int mood = 0; mood <= 9; mood++) {
            x.terms(2, mood);
            due("keeps at mood " + mood, x.of(0, 6), mood < 5 ? 1 : 0);
            due("leaves at mood " + mood, x.of(0, 7), mood >= 4 && mood < 9 ? 1 : 0);
        }
        Check.rule(x, "passes 9");
        due("no keeps, no leaves", x.of(0, 6) + x.of(0, 7), 0);
    }

    @Sentence(promises = {3, 19}, words = "it KEEPS all, if \"keeps\" HOLDS")
    static void whoKeepsAllIsGivenTo(SteamNations x) {
        Check.sitters(x, 5, 0, 0, 0, 5, 0);
        x.seat(0, 0);
        x.seat(1, 1);
        Check.rule(x, "passes 2; keeps if sitter = 0");
        due("what it would pass is told", x.asks(0, 1), 2);
        x.pass();
        due("it has all of its own", x.of(0, 0), 5);
        due("and what the other one passed", x.of(0, 1) * 10 + x.of(1, 1), 23);
    }

    @Sentence(promises = {1, 3, 4}, words = "`NONE = -1`: There is none; OUT.")
    static void noneIsMinusOne(SteamNations x) {
        due("NONE", SteamNations.NONE, -1);
        x.sitter(1, 0, 0, 0);
        due("OUT", x.of(0, 4), -1);
        due("nobody", x.at(0), -1);
        due("no fault, no clause, no law", x.fault() + x.stopped() + x.count(11), -3);
    }
}
