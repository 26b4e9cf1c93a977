/** Boundaries of promises 7 to 15: the tape, rows, laws, orders. */
final class TextBoundaries {
    private static final int NONE = SteamNations.NONE;
    private static final int LOW = Integer.MIN_VALUE;
    private static final int HIGH = Integer.MAX_VALUE;

    private TextBoundaries() {
    }

    private static void due(String what, long got, long want) {
        Check.due(what, got, want);
    }

    private static String times(String text, int n) {
        return text.repeat(n);
    }

    /** Due is that orders on a room of nobody are run so often. */
    private static void ran(String text, int often) {
        SteamNations x = new SteamNations();
        due("orders " + text, Check.orders(x, text), often);
        due("minute behind " + text, x.count(12), often);
    }

    // The tape

    @Sentence(promises = {7}, words = "NONE, if there would be more than 400.")
    static void tapeIsFull(SteamNations x) {
        for (int i = 1; i <= 20; i++) {
            due("feed " + i, x.feed(0, 0, 0, 0, 0), 20 * i);
        }
        due("beyond 400", x.feed(0, 0, 0, 0, 0), NONE);
        due("bytes", x.count(5), 400);
        for (int bytes = 381; bytes < 400; bytes += 6) {
            x.end(bytes);
            due("beyond 400, from " + bytes, x.feed(0, 0, 0, 0, 0), NONE);
            due("as many as there were", x.count(5), bytes);
            x.end(380);
            due("to 400", x.feed(0, 0, 0, 0, 0), 400);
        }
        due("no refusal", x.status() + x.count(6) + x.count(9), 0);
    }

    @Sentence(promises = {7, 9}, words = "NONE, if there would be more than 400.")
    static void whatIsNotFedChangesNothing(SteamNations x) {
        x.feed(0x01020300, 0, 0, 0, 0);
        for (int i = 2; i <= 20; i++) {
            x.feed(-1, -1, -1, -1, -1);
        }
        x.feed(0x09090900, 0, 0, 0, 0);
        due("row", x.row(), 5);
        due("the first one's blue", x.of(0, 1), 2);
        due("the rest are puffs", x.puffs(), 95);
    }

    @Sentence(promises = {7}, words = "Twenty bytes come behind the TAPE, four of each number, the highest first: how many it has.")
    static void bytesOfEndNumbers(SteamNations x) {
        due("feed", x.feed(HIGH, LOW, -1, 0x63000002, 0x00630001), 20);
        // 127 255 255 255, 128 0 0 0 and four times 255 can't be.
        due("row", x.row(), 2);
        due("puffs", x.puffs(), 3);
        due("99 first", x.of(0, 0) * 10 + x.of(0, 3), 992);
        due("99 second", x.of(1, 1) * 10 + x.of(1, 3), 991);
        x.feed(0x00006302, 0, 0, 0, 0);
        x.end(4);
        x.row();
        due("99 third", x.of(2, 2) * 10 + x.of(2, 3), 992);
    }

    @Sentence(promises = {8}, words = "NONE, if it has not so many, or n is below 0.")
    static void endOfTape(SteamNations x) {
        due("0 of nothing", x.end(0), 0);
        due("1 of nothing", x.end(1), NONE);
        x.feed(0, 0, 0, 0, 0);
        due("20 of 20", x.end(20), 20);
        due("21 of 20", x.end(21), NONE);
        due("-1", x.end(-1), NONE);
        due("low", x.end(LOW), NONE);
        due("high", x.end(HIGH), NONE);
        due("bytes", x.count(5), 20);
        due("19", x.end(19), 19);
        due("20 of 19", x.end(20), NONE);
        due("0", x.end(0), 0);
        due("none is left", x.count(5), 0);
        due("no refusal", x.status() + x.count(6), 0);
    }

    // Rows

    @Sentence(promises = {9}, words = "-6 the TAPE is empty.")
    static void rowOfEmptyTape(SteamNations x) {
        due("row", x.row(), -6);
        due("its refusal", x.status(), -6);
        due("refused by -6", x.count(10), 1);
        x.feed(0, 0, 0, 0, 0);
        x.end(0);
        due("row, all taken away", x.row(), -6);
        x.feed(0, 0, 0, 0, 0);
        x.end(1);
        due("row of one byte", x.row(), 0);
        due("no refusal", x.status(), 0);
        due("the tape is empty then", x.row(), -6);
    }

    @Sentence(promises = {9, 10}, words = "one within which the TAPE ends")
    static void tapeEndsWithinARow(SteamNations x) {
        int[] came = {0, 0, 0, 1, 1, 1, 1, 2};
        int[] puffs = {1, 1, 1, 0, 1, 1, 1, 0};
        for (int bytes = 1; bytes <= 8; bytes++) {
            SteamNations y = new SteamNations();
            Check.put(y, new byte[bytes]);
            due("row of " + bytes, y.row(), came[bytes - 1]);
            due("puffs of " + bytes, y.puffs(), puffs[bytes - 1]);
            due("sitters of " + bytes, y.count(0), came[bytes - 1]);
        }
        Check.put(x, new byte[] {1, 1, 1, 1, 2, 2, 2, 2});
        x.end(7);
        due("bytes behind the end do not count", x.row(), 1);
    }

    @Sentence(promises = {9, 10}, words = "one that can't be, one within which the TAPE ends, one for which there is no room is a PUFF: nobody.")
    static void puffsOfAFullRoom(SteamNations x) {
        Check.put(x, new byte[] {100, 0, 0, 0, 0, 100, 0, 0, 0, 0, 100, 0, 0, 0, 0, 3, -1, 0, 0, 0, 0, 0, 0, -1, 99, 99, 99, 2});
        due("row", x.row(), 1);
        due("puffs", x.puffs(), 6);
        Check.put(x, new byte[4 * 7]);
        due("row to the brim", x.row(), 5);
        due("the first's parts and wish", x.of(0, 0) * 10000 + x.of(0, 1) * 100 + x.of(0, 2) + x.of(0, 3), 1000001);
        due("two for whom there is no room", x.puffs(), 2);
        due("sitters", x.count(0), 6);
        Check.put(x, new byte[400]);
        due("row, no room at all", x.row(), 0);
        due("all are puffs", x.puffs(), 100);
        due("not refused", x.status() + x.count(9), 0);
    }

    @Sentence(promises = {10}, words = "How many PUFFS the latest row() had that was not REFUSED (0 ahead of any).")
    static void puffsOfTheLatestRow(SteamNations x) {
        due("ahead of any", x.puffs(), 0);
        due("refused", x.row(), -6);
        due("ahead of any, still", x.puffs(), 0);
        Check.put(x, new byte[9]);
        x.row();
        due("one", x.puffs(), 1);
        due("refused", x.row(), -6);
        due("one, still", x.puffs(), 1);
        Check.put(x, new byte[4]);
        x.row();
        due("none", x.puffs(), 0);
    }

    // Tokens and limits of texts

    @Sentence(promises = {11, 12}, words = "TEXTS are on a TAPE of at most 400 bytes.")
    static void textsOf400Bytes(SteamNations x) {
        Check.lawFault("keeps" + times(" ", 395), NONE);
        Check.lawFault(times(" ", 395) + "keeps", NONE);
        Check.lawFault("keeps" + times(" ", 394) + ";", 400);
        Check.lawFault("keeps" + times(" ", 394) + "x", 399);
        Check.lawFault(times(" ", 400), 400);
        Check.lawFault(times(" ", 397) + "kee", 397);
        Check.lawFault("passes " + times("0", 392) + "7", NONE);
        Check.lawFault(times(";", 400), 0);
        ran("pass" + times(" ", 396), 1);
    }

    @Sentence(promises = {11, 12}, words = "TOKENS: longest rows of letters a .. z, of digits, single other bytes, any blanks (32) between.")
    static void tokensAtTheirEnds(SteamNations x) {
        Check.lawFault("keepsif 1=1", 0);
        Check.lawFault("keeps if1=1", NONE);
        Check.lawFault("kee ps", 0);
        Check.lawFault("keepsz", 0);
        Check.lawFault("akeeps", 0);
        Check.lawFault("passes 09", NONE);
        Check.lawFault("passes 10 00", 10);
        Check.lawFault("passes 1000", NONE);
        Check.lawFault("passes1", NONE);
        Check.lawFault("passes 1a", 8);
        Check.lawFault("passes 1if 1=1", NONE);
        Check.lawFault("passes mood1", 11);
        Check.lawFault("keeps if 1==1", 11);
        Check.lawFault("keeps if 1<=1", 11);
        Check.lawFault("  keeps  ", NONE);
        int[] others = {0, 9, 10, 13, 31, 33, '/', ':', '@', 'A', 'Z', '[', '`', '{', 127, 128, 160, 255};
        for (int other : others) {
            Check.lawFault("keeps" + (char) other, 5);
            Check.lawFault((char) other + "keeps", 0);
            Check.lawFault("passes 1" + (char) other, other == '/' ? 9 : 8);
        }
    }

    @Sentence(promises = {11, 12}, words = "12 at most (FAULT at the 13th's first TOKEN).")
    static void twelveClauses(SteamNations x) {
        String laws = "keeps" + times(";keeps", 11);
        Check.lawFault(laws, NONE);
        Check.lawFault(laws + ";keeps", 72);
        Check.lawFault(laws + ";  leaves", 74);
        Check.lawFault(laws + ";passes 1001", 72);
        Check.lawFault(laws + ";", 72);
        Check.lawFault(laws + "keeps", 66);
        Check.lawFault(laws + " keeps", 72);
        ran("pass" + times(";pass", 11), 12);
        Check.ordersFault("pass" + times(";pass", 12), 60);
        Check.ordersFault("pass" + times(";pass", 11) + " ; out 0", 62);
    }

    @Sentence(promises = {11, 12}, words = "PART: NUMBER (to 1,000)")
    static void numbersToAThousand(SteamNations x) {
        Check.lawFault("passes 0", NONE);
        Check.lawFault("passes 1000", NONE);
        Check.lawFault("passes 1001", 7);
        Check.lawFault("passes 9999", 7);
        Check.lawFault("passes 2147483648", 7);
        Check.lawFault("passes 4294967296", 7);
        Check.lawFault("passes 18446744073709551616", 7);
        Check.lawFault("keeps if 1000=1001", 14);
        Check.lawFault("keeps if [1000]*1000 < 1001", 23);
        Check.ordersFault("out 1001", 4);
        ran("pass if 1000=999+1", 1);
        due("1000 is no sitter, but a number", Check.orders(x, "out 1000"), -3);
    }

    @Sentence(promises = {11, 12}, words = "50 PARTS that are NUMBERS and words (FAULT at the 51st)")
    static void fiftyParts(SteamNations x) {
        Check.lawFault("passes 1" + times("+1", 49), NONE);
        Check.lawFault("passes 1" + times("+1", 50), 107);
        Check.lawFault("passes mood" + times("+mood", 49), NONE);
        Check.lawFault("passes mood" + times("+mood", 50), 257);
        Check.lawFault("passes 1" + times("+1", 49) + "+", 107);
        Check.lawFault("passes 1" + times("+1", 49) + "+1001", 107);
        Check.lawFault("passes [1]" + times("+[1]", 49), NONE);
        Check.lawFault("passes [1]" + times("+[1]", 50), 208);
        Check.lawFault("passes 1" + times("+1", 24) + ";passes 1" + times("+1", 24), NONE);
        Check.lawFault("passes 1" + times("+1", 24) + ";passes 1" + times("+1", 25), 114);
        Check.lawFault("passes 1" + times("+1", 47) + " if 1=1", NONE);
        Check.lawFault("passes 1" + times("+1", 48) + " if 1=1", 110);
        Check.lawFault("keeps if 1" + times("<2 and 1", 24) + "<2", NONE);
        Check.lawFault("keeps if 1" + times("<2 and 1", 25) + "<2", 209);
    }

    @Sentence(promises = {12}, words = "P, TIMES aside, NUMBERS and words count as PARTS of a TEXT.")
    static void fiftyPartsOfOrders(SteamNations x) {
        ran("pass times 20 if 0" + times("+is 5", 48) + "<0", 20);
        Check.ordersFault("pass times 20 if 0" + times("+is 5", 49) + "<0", 264);
        ran("pass times 20 if much 5" + times("+much 5", 48) + "<0", 20);
        Check.ordersFault("pass times 20 if much 5" + times("+much 5", 49) + "<done", 367);
        Check.sitters(x, 0, 0, 0, 0, 0, 0);
        due("the sums count", Check.orders(x, "seat 0 at 0" + times("+0", 22) + ";seat 1 at 1" + times("+0", 24)), 2);
        due("to the 51st", Check.orders(x, "seat 0 at 4" + times("+0", 22) + ";seat 1 at 5" + times("+0", 25)), -6);
        due("its place", x.fault(), 11 + 44 + 12 + 49);
    }

    @Sentence(promises = {11, 12}, words = "8 brackets of both kinds within one another (FAULT at the 9th) at most")
    static void eightBrackets(SteamNations x) {
        Check.lawFault("passes " + times("[", 8) + "1" + times("]", 8), NONE);
        Check.lawFault("passes " + times("[", 9) + "1" + times("]", 9), 15);
        Check.lawFault("keeps if " + times("(", 8) + "1=1" + times(")", 8), NONE);
        Check.lawFault("keeps if " + times("(", 9) + "1=1" + times(")", 9), 17);
        Check.lawFault("keeps if " + times("(", 4) + times("[", 4) + "1" + times("]", 4) + "=1" + times(")", 4), NONE);
        Check.lawFault("keeps if " + times("(", 4) + times("[", 5) + "1" + times("]", 5) + "=1" + times(")", 4), 17);
        Check.lawFault("keeps if " + times("(", 8) + "1=[1]" + times(")", 8), 19);
        Check.lawFault("keeps if " + times("not(", 8) + "1=1" + times(")", 8), NONE);
        Check.lawFault("keeps if " + times("not(", 9) + "1=1" + times(")", 9), 9 + 35);
        Check.lawFault("passes [1]" + times("+[1]", 20), NONE);
        Check.lawFault("keeps if " + times("(1=1)and", 20) + "(1=1)", NONE);
        Check.lawFault("passes " + times("[", 8) + "1" + times("]", 8) + "*" + times("[", 8) + "1" + times("]", 8), NONE);
        Check.ordersFault("out " + times("[", 9) + "1" + times("]", 9), 12);
        Check.ordersFault("seat 0 at " + times("[", 9) + "1" + times("]", 9), 18);
        Check.ordersFault("swap " + times("[", 8) + "1" + times("]", 8) + "with " + times("[", 9), 35);
        due("eight in each sum", Check.orders(x, "swap " + times("[", 8) + "1" + times("]", 8) + "with " + times("[", 8) + "1"
                + times("]", 8)), -3);
        ran("pass if " + times("(", 8) + "1=1" + times(")", 8), 1);
    }

    @Sentence(promises = {11, 12, 13}, words = "FAULT: the first TOKEN that can't go on there (the end's: the TEXT's length).")
    static void faultAtTheEnd(SteamNations x) {
        String[] laws = {"", "passes", "passes  ", "keeps if", "keeps;", "keeps ;  ", "passes [1", "passes 1+", "passes 1*", "keeps if 1",
            "keeps if 1=", "keeps if (1=1", "keeps if not", "keeps if 1=1 and", "keeps if 1=1 or ", "passes [", "keeps if ("};
        for (String text : laws) {
            Check.lawFault(text, text.length());
        }
        String[] orders = {"", "seat", "seat 0", "seat 0 at", "out", "out is", "out much ", "swap 0", "swap 0 with", "pass times", "pass if",
            "pass;", "pass times 2 if 1 <"};
        for (String text : orders) {
            Check.ordersFault(text, text.length());
        }
    }

    @Sentence(promises = {11, 12, 13}, words = "FAULT: the first TOKEN that can't go on there")
    static void faultAtAToken(SteamNations x) {
        Check.lawFault("passes )", 7);
        Check.lawFault("passes 1 )", 9);
        Check.lawFault("keeps keeps", 6);
        Check.lawFault("keeps 1", 6);
        Check.lawFault(";", 0);
        Check.lawFault("keeps;;keeps", 6);
        Check.lawFault("keeps if 1 and 1=1", 11);
        Check.lawFault("keeps if (1)=1", 11);
        Check.lawFault("keeps if [1=1]", 11);
        Check.lawFault("keeps if 1=1=1", 12);
        Check.lawFault("keeps if 1=not 1", 11);
        Check.lawFault("keeps if if", 9);
        Check.lawFault("passes - 1", 7);
        Check.lawFault("passes sitter other", 14);
        Check.lawFault("passes is 0", 7);
        Check.lawFault("passes pleased", 7);
        Check.lawFault("pass", 0);
        Check.ordersFault("passes 1", 0);
        Check.ordersFault("pass 1", 5);
        Check.ordersFault("seat 0 with 1", 7);
        Check.ordersFault("swap 0 at 1", 7);
        Check.ordersFault("pass if 1=1 times 2", 12);
        Check.ordersFault("pass times 2 times 2", 13);
        Check.ordersFault("pass if nation=0", 8);
        Check.ordersFault("pass if mood=0", 8);
        Check.ordersFault("out sitter", 4);
    }

    @Sentence(promises = {11, 12}, words = "Beyond 1,000,000,000 either way, or divided by 0")
    static void beyondAThousandMillions(SteamNations x) {
        String most = "1000*1000*1000";
        ran("pass if " + most + ">0", 1);
        ran("pass if " + most + "+1>0", 0);
        ran("pass if not " + most + "+1>0", 0);
        ran("pass if 0-" + most + "<0", 1);
        ran("pass if 0-" + most + "-1<0", 0);
        ran("pass if not 0-" + most + "-1<0", 0);
        ran("pass if " + most + "+0=" + most + "-0", 1);
        ran("pass if [" + most + "]*[" + most + "]>0", 0);
        ran("pass if [0-" + most + "]*[" + most + "]<0", 0);
        // 65536 times itself would be 0 where a number wraps around.
        ran("pass if [1000*65+536]*[1000*65+536]=0", 0);
        ran("pass if " + most + "+" + most + "+" + most + "+" + most + "+" + most + "<" + most, 0);
        ran("pass if " + most + "-1+1>0", 1);
        ran("pass if " + most + "+1-1>0", 0);
    }

    @Sentence(promises = {11, 12}, words = "divided by 0 (/ cut towards 0, % what is left then)")
    static void dividedByNothing(SteamNations x) {
        String[] broken = {"1/0=0", "0/0=0", "1%0=0", "0%0=0", "1/[1-1]=0", "0=1/0", "1/0<1", "1/0>0", "not 1/0=0", "not 1%0=1", "[1/0]*0=0"};
        for (String test : broken) {
            ran("pass if " + test, 0);
        }
        String[] holding = {"7/2=3", "[0-7]/2=0-3", "7/[0-2]=0-3", "[0-7]/[0-2]=3", "7%2=1", "[0-7]%2=0-1", "7%[0-2]=1", "[0-7]%[0-2]=0-1",
            "0/5=0", "0%5=0", "1/2=0", "[0-1]/2=0", "[0-1]%2=0-1"};
        for (String test : holding) {
            ran("pass if " + test, 1);
        }
    }

    @Sentence(promises = {11, 12}, words = "a SUM, a TEST is BROKEN (\"or\", \"and\" ask what stands behind only if it can still matter)")
    static void orAndAskWhatMatters(SteamNations x) {
        ran("pass if 1=1 or 1/0=0", 1);
        ran("pass if 1=2 or 1/0=0", 0);
        ran("pass if not (1=2 and 1/0=0)", 1);
        ran("pass if not (1=1 and 1/0=0)", 0);
        ran("pass if 1/0=0 or 1=1", 0);
        ran("pass if not (1/0=0 and 1=2)", 0);
        ran("pass if 1=1 or 1=2 or 1/0=0", 1);
        ran("pass if 1=2 or 1=1 or 1/0=0", 1);
        ran("pass if 1=1 or 1=1 and 1/0=0", 1);
        ran("pass if 1=2 and 1/0=0 or 1=1", 1);
        ran("pass if 1=1 and 1/0=0 or 1=1", 0);
        ran("pass if (1=1 or 1/0=0) and 1=1", 1);
    }

    @Sentence(promises = {11, 12}, words = "SUM (\"<\" | \">\" | \"=\") SUM")
    static void alikeAndNextToOneAnother(SteamNations x) {
        String[] so = {"1<2", "2>1", "2=2", "0-1<0", "0>0-1", "not 1<1", "not 1>1", "not 1=2", "not 2<1", "not 1>2", "not not 1=1",
            "not (not 1=1)", "not (not (not 1=2))", "not 1=2 and 1=1", "not 1=1 or 1=1", "2<1 or 1=1", "1>2 or 1=1"};
        for (String test : so) {
            ran("pass if " + test, 1);
        }
        String[] notSo = {"1<1", "2<1", "1>1", "1>2", "1=2", "not 1=1", "not 1=1 and 1=1", "1=1 and not 1=1", "2<1 and 1=1", "1>2 and 1=1",
            "not 1=1 or not 1=1", "not (1=1 or 1=1)"};
        for (String test : notSo) {
            ran("pass if " + test, 0);
        }
        ran("pass if not (2<1 and 1/0=0)", 1);
        ran("pass if not (1>2 and 1/0=0)", 1);
        ran("pass if not (not 1=1 and 1/0=0)", 1);
    }

    // Laws

    @Sentence(promises = {11}, words = "LAWS, 6 at most")
    static void sixLaws(SteamNations x) {
        for (int i = 0; i < 6; i++) {
            due("law", Check.law(x, "passes " + i), i);
            due("laws", x.count(3), i + 1);
        }
        due("the seventh", Check.law(x, "passes 6"), -5);
        due("laws", x.count(3), 6);
        due("refused by -5", x.count(9), 1);
        due("force 5", x.force(5), NONE);
        due("force 6", x.force(6), -2);
    }

    @Sentence(promises = {11, 13}, words = "-5 (ahead of reading it; the TAPE is empty then, too)")
    static void noRoomAheadOfReading(SteamNations x) {
        for (int i = 0; i < 5; i++) {
            Check.law(x, "keeps");
        }
        Check.law(x, "keeps if");
        due("fault", x.fault(), 8);
        Check.law(x, "keeps");
        due("fault of the sixth", x.fault(), NONE);
        due("one that can't be read", Check.law(x, "passes"), -5);
        due("its refusal", x.status(), -5);
        due("the tape is empty", x.count(5), 0);
        due("it was not read", x.fault(), NONE);
        due("an empty one", x.law(), -5);
        Check.orders(x, "out");
        due("orders are read", x.fault(), 3);
        due("one that can be read", Check.law(x, "keeps"), -5);
        due("fault of the latest that was read", x.fault(), 3);
        due("refused by -5, by -6", x.count(9) * 10 + x.count(10), 32);
    }

    @Sentence(promises = {11, 13}, words = "-6 (blanks alone: FAULT at the end)")
    static void blanksAlone(SteamNations x) {
        due("nothing", x.law(), -6);
        due("its fault", x.fault(), 0);
        due("one blank", Check.law(x, " "), -6);
        due("its fault", x.fault(), 1);
        due("twenty blanks", Check.law(x, times(" ", 20)), -6);
        due("its fault", x.fault(), 20);
        due("the tape is empty", x.count(5), 0);
        due("refused by -6", x.count(10), 3);
        due("laws", x.count(3), 0);
    }

    @Sentence(promises = {11, 15, 19}, words = "one is in FORCE (NONE at first: no CLAUSE)")
    static void noneInForce(SteamNations x) {
        Check.sitters(x, 5, 0, 0, 5, 0, 0);
        x.seat(0, 0);
        x.seat(1, 1);
        Check.law(x, "passes 4; keeps if sitter = 1; leaves");
        due("in force", x.count(11), NONE);
        due("passes", x.asks(0, 1), 1);
        due("keeps, leaves", x.of(1, 6) + x.of(1, 7), 0);
        x.pass();
        due("one each", x.of(0, 0) * 10 + x.of(1, 0), 55);
        x.force(0);
        x.force(NONE);
        due("none again", x.count(11), NONE);
        due("passes again", x.asks(0, 1), 1);
    }

    @Sentence(promises = {15}, words = "A LAW is in FORCE (NONE: none): which was. -2.")
    static void noSuchLaw(SteamNations x) {
        due("0 of none", x.force(0), -2);
        due("its refusal", x.status(), -2);
        due("NONE was", x.force(NONE), NONE);
        due("no refusal, though it told -1", x.status() + x.count(6), 0);
        Check.law(x, "keeps");
        int[] beyond = {-2, 1, 6, LOW, HIGH};
        for (int law : beyond) {
            due("force " + law, x.force(law), -2);
        }
        due("force 0", x.force(0), NONE);
        due("force 1", x.force(1), -2);
        due("0 stays", x.count(11), 0);
        due("0 was", x.force(NONE), 0);
        due("refused by -2", x.count(7), 7);
    }

    // Orders

    @Sentence(promises = {12}, words = "TIMES: a NUMBER 1 .. 20.")
    static void oneToTwentyTimes(SteamNations x) {
        ran("pass times 1", 1);
        ran("pass times 20", 20);
        ran("pass times 0020", 20);
        Check.ordersFault("pass times 0", 11);
        Check.ordersFault("pass times 21", 11);
        Check.ordersFault("pass times 1000", 11);
        Check.ordersFault("pass times 1001", 11);
        Check.ordersFault("pass times 4294967297", 11);
        Check.ordersFault("pass times done", 11);
        Check.ordersFault("pass times [1]", 11);
        Check.ordersFault("pass times 1+1", 12);
    }

    @Sentence(promises = {12}, words = "(P: a NUMBER 0 .. 5)")
    static void zeroToFive(SteamNations x) {
        ran("pass if is 0=is 5 and much 0=much 5", 1);
        Check.ordersFault("pass if is 6=0", 11);
        Check.ordersFault("pass if much 6=0", 13);
        Check.ordersFault("pass if is 4294967296=0", 11);
        Check.ordersFault("pass if is done=0", 11);
        Check.ordersFault("pass if is [0]=0", 11);
        Check.ordersFault("pass if much=0", 12);
        Check.ordersFault("pass if is -1=0", 11);
    }

    @Sentence(promises = {12}, words = "each as often as TIMES tell (once without)")
    static void onceWithout(SteamNations x) {
        ran("pass", 1);
        ran("pass;pass times 2;pass", 4);
        ran("pass times 20;pass times 20;pass times 20", 60);
    }

    @Sentence(promises = {12}, words = "each time its \"if\" is asked (not run, if it is not so or BROKEN)")
    static void ifAskedEachTime(SteamNations x) {
        ran("pass times 20 if minute<7", 7);
        ran("pass times 20 if minute<0", 0);
        ran("pass times 20 if 7/[7-minute]>0", 7);
        ran("pass times 3 if done=2;pass times 2;pass times 3 if done=2", 3);
        ran("pass if 1=2", 0);
    }

    @Sentence(promises = {12}, words = "done: how many were run in this TEXT, latest: what the latest out in it told (-1: none)")
    static void doneAndLatestAtFirst(SteamNations x) {
        Check.sitters(x, 0, 0, 0);
        x.seat(0, 0);
        due("none yet", Check.orders(x, "pass if latest=0-1 and done=0"), 1);
        due("told 0", Check.orders(x, "out 0;pass if latest=0 and done=1"), 2);
        due("none in this text", Check.orders(x, "pass if latest=0-1 and done=0;seat 0 at 8;pass if latest=0-1 and done=2"), 3);
        due("told 8, then 7", Check.orders(x, "out 0;seat 0 at latest-1;out 0;pass if latest=7"), 4);
    }

    @Sentence(promises = {12}, words = "inside: how many have a SEAT, pleased: how many SITTERS are what they WISH, is, much: -1 without such a SITTER")
    static void wordsOfAnEmptyRoom(SteamNations x) {
        ran("pass if inside=0 and pleased=0", 1);
        ran("pass if is 0=0-1 and much 0=0-1 and is 5=0-1 and much 5=0-1", 1);
        Check.sitters(x, 0, 0, 0, 0, 3, 0);
        due("sitters", Check.orders(x, "pass if is 0=0 and much 0=0 and is 1=1 and much 1=3 and is 2=0-1 and much 2=0-1"), 1);
        due("OUT ones", Check.orders(x, "pass if inside=0 and pleased=1"), 1);
        x.seat(1, 0);
        due("one inside", Check.orders(x, "pass if inside=1 and pleased=1"), 1);
    }

    @Sentence(promises = {12, 14},
            words = "One that can't be (a BROKEN SUM, as seat(), out(), swap(), pass() are REFUSED) ends it: all is as it was ahead of it.")
    static void ordersThatEnd(SteamNations x) {
        String[] ends = {"seat 0 at 9", "seat 0 at 0-1", "seat 3 at 1", "seat 0-1 at 1", "seat 2 at 0", "seat 0 at 0", "out 2", "out 3", "out 0-1",
            "swap 0 with 0", "swap 0 with 2", "swap 2 with 0", "swap 0 with 3", "pass", "seat 1/0 at 8", "seat 2 at 1%0",
            "out 1000*1000*1000+1", "swap 1/0 with 1", "swap 0 with 1/0"};
        for (String end : ends) {
            SteamNations y = new SteamNations();
            Check.sitters(y, 9, 0, 0, 0, 9, 0, 0, 0, 9);
            y.terms(0, 998);
            y.seat(0, 4);
            y.seat(1, 3);
            due(end, Check.orders(y, "seat 0 at 0;pass;" + end + ";out 1"), -3);
            due("stopped: " + end, y.stopped(), 2);
            due("its refusal: " + end, y.status(), -3);
            due("refused by -1, -2, -3: " + end, y.count(6) * 100 + y.count(7) * 10 + y.count(8), 1);
            due("seats: " + end, y.of(0, 4) * 10 + y.of(1, 4), 43);
            due("parts: " + end, y.of(0, 0) * 10 + y.of(0, 1), 90);
            due("minute: " + end, y.count(12), 998);
            due("can be undone: " + end, y.count(4), 2);
            due("undone: " + end, y.undo() * 10 + y.of(1, 4), NONE);
            due("fault: " + end, y.fault(), NONE);
        }
    }

    @Sentence(promises = {12, 14}, words = "One that can't be (a BROKEN SUM, as seat(), out(), swap(), pass() are REFUSED) ends it")
    static void onlyWhatIsRunCanEndIt(SteamNations x) {
        Check.sitters(x, 9, 0, 0);
        due("not run: no end", Check.orders(x, "out 5 if 1=2;seat 0 at 99 if 1/0=1;out 1/0 if done>0;pass"), 1);
        due("stopped", x.stopped(), NONE);
        due("the second time", Check.orders(x, "pass;seat 0 at 3 times 2"), -3);
        due("stopped", x.stopped(), 1);
        due("OUT, as it was", x.of(0, 4), NONE);
        due("the last of twelve", Check.orders(x, "pass" + times(";pass", 10) + ";out 0"), -3);
        due("stopped", x.stopped(), 11);
        due("minute", x.count(12), 1);
    }

    @Sentence(promises = {12, 19}, words = "orders in a second language that are run wholly or not at all")
    static void ordersBeyondMinute999(SteamNations x) {
        x.terms(0, 980);
        due("to 999", Check.orders(x, "pass times 19"), 19);
        due("minute", x.count(12), 999);
        x.terms(0, 980);
        due("beyond 999", Check.orders(x, "pass times 20"), -3);
        due("minute as it was", x.count(12), 980);
        due("undone", x.count(4), 0);
    }

    @Sentence(promises = {12, 13}, words = "ORDERS, the TAPE is empty then: how many were run. -3 one can't be; -6 (as for law()).")
    static void ordersOfBlanks(SteamNations x) {
        due("nothing", x.orders(), -6);
        due("its fault", x.fault(), 0);
        due("blanks", Check.orders(x, "   "), -6);
        due("their fault", x.fault(), 3);
        due("the tape is empty", x.count(5), 0);
        due("refused by -6", x.count(10), 2);
        due("none is run", Check.orders(x, "pass if 1=2"), 0);
        due("no refusal", x.status(), 0);
        Check.orders(x, "out 0");
        due("the tape is empty, too", x.count(5), 0);
    }

    @Sentence(promises = {13}, words = "FAULT of the latest law(), orders() that read a TEXT: its place; NONE without.")
    static void faultOfTheLatest(SteamNations x) {
        due("ahead of any", x.fault(), NONE);
        Check.law(x, "keep");
        due("place 0", x.fault(), 0);
        Check.law(x, "keeps");
        due("without", x.fault(), NONE);
        Check.orders(x, "pass pass");
        due("place 5", x.fault(), 5);
        Check.orders(x, "out 0");
        due("without, though it was refused", x.fault(), NONE);
        Check.law(x, times(" ", 400));
        due("place 400", x.fault(), 400);
        x.row();
        x.sitter(-1, 0, 0, 0);
        due("others leave it", x.fault(), 400);
    }

    @Sentence(promises = {14}, words = "Which CLAUSE of the latest orders() could not be. NONE.")
    static void stoppedOfTheLatest(SteamNations x) {
        due("ahead of any", x.stopped(), NONE);
        Check.orders(x, "out 0");
        due("the first", x.stopped(), 0);
        Check.law(x, "keeps");
        x.pass();
        due("others leave it", x.stopped(), 0);
        Check.orders(x, "pass");
        due("it could be", x.stopped(), NONE);
        Check.orders(x, "pass;out 0");
        due("the second", x.stopped(), 1);
        Check.orders(x, "pass out");
        due("it could not be read", x.stopped(), NONE);
    }

    @Sentence(promises = {11, 12}, words = "a word, as told.")
    static void wordsThatAreNone(SteamNations x) {
        String[] none = {"x", "a", "z", "no", "nots", "sitters", "sitte", "moods", "minut", "passe", "orr", "iff"};
        for (String word : none) {
            Check.lawFault(word, 0);
            Check.lawFault("passes " + word, 7);
            Check.lawFault("passes 1 " + word + " 1", 9);
            Check.lawFault("keeps " + word + " 1=1", 6);
            Check.lawFault("keeps if " + word + " 1=1", 9);
            Check.lawFault("keeps if 1=" + word, 11);
            Check.lawFault("keeps if 1=1 " + word + " 1=1", 13);
            Check.ordersFault(word, 0);
            Check.ordersFault("out " + word, 4);
            Check.ordersFault("seat 0 " + word + " 0", 7);
            Check.ordersFault("swap 0 " + word + " 0", 7);
            Check.ordersFault("pass " + word, 5);
            Check.ordersFault("pass times " + word, 11);
            Check.ordersFault("pass if is " + word + "=0", 11);
            Check.ordersFault("pass if not " + word + " 1=1", 12);
        }
    }

    @Sentence(promises = {11}, words = "Words: \"sitter\" | \"other\" | \"tier\" | \"nation\" | \"much\" | \"wish\" | \"minute\" | \"mood\".")
    static void wordsOfLawsAlone(SteamNations x) {
        String[] words = {"sitter", "other", "tier", "nation", "much", "wish", "minute", "mood"};
        for (String word : words) {
            Check.lawFault("passes " + word, NONE);
            Check.lawFault("passes " + word + " 0", 8 + word.length());
            Check.lawFault(word, 0);
        }
        for (String word : new String[] {"sitter", "other", "tier", "nation", "wish", "mood"}) {
            Check.ordersFault("out " + word, 4);
        }
        Check.ordersFault("out much", 8);
    }

    @Sentence(promises = {12}, words = "Words: \"minute\" | \"done\" | \"latest\" | \"inside\" | \"pleased\" | \"is\" P | \"much\" P")
    static void wordsOfOrdersAlone(SteamNations x) {
        for (String word : new String[] {"minute", "done", "latest", "inside", "pleased", "is 5", "much 5"}) {
            ran("pass if " + word + "=" + word, 1);
            Check.ordersFault("pass if " + word + " 0", 9 + word.length());
            Check.ordersFault(word, 0);
        }
        for (String word : new String[] {"done", "latest", "inside", "pleased", "is", "is 0"}) {
            Check.lawFault("passes " + word, 7);
        }
        Check.lawFault("passes much 5", 12);
    }

    @Sentence(promises = {11, 12}, words = "CLAUSE: (\"passes\" SUM | \"keeps\" | \"leaves\") [\"if\" TEST].")
    static void wordsThatOpenOrGoOn(SteamNations x) {
        String[] others = {"passes", "keeps", "leaves", "seat", "out", "swap", "pass", "at", "with", "times", "if", "or", "and", "not"};
        for (String word : others) {
            Check.lawFault("passes " + word, 7);
            Check.lawFault("keeps if 1=" + word, 11);
            Check.ordersFault("out " + word, 4);
            Check.ordersFault("pass times " + word, 11);
            Check.ordersFault("pass if is " + word, 11);
        }
        for (String word : new String[] {"seat", "out", "swap", "pass", "at", "with", "times", "if", "or", "and", "not"}) {
            Check.lawFault(word, 0);
            Check.lawFault("keeps;" + word, 6);
        }
        for (String word : new String[] {"passes", "keeps", "leaves", "at", "with", "times", "if", "or", "and", "not"}) {
            Check.ordersFault(word, 0);
            Check.ordersFault("pass;" + word, 5);
        }
        Check.lawFault("keeps times 2", 6);
        Check.lawFault("leaves 1", 7);
        Check.lawFault("keeps or 1=1", 6);
    }

    @Sentence(promises = {11, 12, 13}, words = "TEXTS are on a TAPE of at most 400 bytes.")
    static void longTextsOneBehindAnother(SteamNations x) {
        String most = "pass if 0" + times("+1", 47) + "=47";
        String beyond = "pass if 0" + times("+1", 50) + "=47";
        for (int i = 1; i <= 20; i++) {
            due("orders " + i, Check.orders(x, most), 1);
            due("fault " + i, x.fault(), NONE);
            due("minute " + i, x.count(12), i);
        }
        for (int i = 0; i < 5; i++) {
            due("one that can't be read", Check.orders(x, beyond), -6);
            due("one that can", Check.orders(x, most), 1);
        }
        for (int i = 0; i < 6; i++) {
            due("laws, too", Check.law(x, "passes 0" + times("+1", 49)), i);
        }
    }

    @Sentence(promises = {8, 9}, words = "The TAPE has its first n bytes alone: n.")
    static void whatComesBehindTheEnd(SteamNations x) {
        x.feed(0x01020300, 0x04050601, 0x07080902, 0, 0);
        due("four are left", x.end(4), 4);
        due("bytes", x.count(5), 4);
        due("twenty more", x.feed(0x0a0b0c02, 0, 0, 0, 0), 24);
        due("eight are left", x.end(8), 8);
        due("row", x.row(), 2);
        due("the first", x.of(0, 0) * 100 + x.of(0, 1) * 10 + x.of(0, 2), 123);
        due("the second is what came behind the end", x.of(1, 0) * 10000 + x.of(1, 1) * 100 + x.of(1, 2), 101112);
        due("its wish", x.of(1, 3), 2);
    }

    @Sentence(promises = {9}, words = "A ROW, the TAPE is empty then: how many SITTERS came.")
    static void tapeBehindARow(SteamNations x) {
        Check.put(x, new byte[400]);
        due("six came", x.row(), 6);
        due("the tape is empty", x.count(5), 0);
        due("nothing is left", x.end(1), NONE);
        due("the first twenty anew", x.feed(0, 0, 0, 0, 0), 20);
    }

    @Sentence(promises = {11}, words = "The TAPE, which is empty then, becomes a LAW: its number.")
    static void tapeBehindALaw(SteamNations x) {
        due("a law", Check.law(x, "keeps"), 0);
        due("the tape is empty", x.count(5), 0);
        due("it is not read again", x.law(), -6);
        due("one that can't be read", Check.law(x, "keeps if"), -6);
        due("the tape is empty", x.count(5), 0);
        due("the next one's number", Check.law(x, "keeps"), 1);
    }

    @Sentence(promises = {12}, words = "then its SUMS from the left")
    static void sumsAskedOnlyBehindIf(SteamNations x) {
        Check.sitters(x, 1, 0, 0);
        due("broken sums of what is not run", Check.orders(x, "seat 1/0 at 0 if 1=2;out 1%0 if 1/0=0;swap 0 with 1/0 if not 1=1"), 0);
        due("none stopped it", x.stopped(), NONE);
        due("sums as it is at each time", Check.orders(x, "seat inside at done+3;seat 0 at done+3 times 4"), 5);
        due("the last seat", x.of(0, 4), 7);
        due("one too far", Check.orders(x, "seat 0 at done*4 times 4"), -3);
        due("as it was", x.of(0, 4), 7);
    }
}
