import java.util.Arrays;

/** A hot room in which nations come off on one another; the document's promises 1 to 39. */
public final class SteamNations {
    public static final int NONE = -1;

    private static final int BAD_NUMBER = -1;
    private static final int NO_SUCH = -2;
    private static final int CANNOT = -3;
    private static final int NO_ROOM = -5;
    private static final int BAD_TEXT = -6;

    private static final int SEATS = 9;
    private static final int WIDTH = 3;
    private static final int MOST_BESIDE = 4;
    // The seats beside each seat, rising.
    private static final int[] BESIDE = {
        1, 3, NONE, NONE,
        0, 2, 4, NONE,
        1, 5, NONE, NONE,
        0, 4, 6, NONE,
        1, 3, 5, 7,
        2, 4, 8, NONE,
        3, 7, NONE, NONE,
        4, 6, 8, NONE,
        5, 7, NONE, NONE
    };
    private static final int NATIONS = 3;
    private static final int MOST_SITTERS = 6;
    private static final int MOST_PARTS_TOLD = 99;
    private static final int MOST_SEEN = 6;
    private static final int MOST_LAWS = 6;
    private static final int MOST_BYTES = 400;
    private static final int BYTES_FED = 20;
    private static final int BYTES_OF_SITTER = 4;
    private static final int MOST_CLAUSES = 12;
    private static final int IMAGES = 2;
    private static final int LAST_MINUTE = 999;
    private static final int FAR_MINUTES = 60;
    private static final int NEAR_MINUTES = 9;
    private static final int MOST_SEATINGS = 720;

    private static final int MINUTE = 0;
    private static final int FAINT = 1;
    private static final int MOOD = 2;
    private static final int[] MOST_OF_TERM = {999, 10, 9};
    private static final int[] FIRST_OF_TERM = {0, 1, 0};

    private static final int DID_SEAT = 0;
    private static final int DID_OUT = 1;
    private static final int DID_SWAP = 2;
    private static final int DID_MINUTE = 3;

    private static final int DROP = 1000000;
    private static final long WHOLE_CHANCE = 1000000000000L;
    private static final int MOST_FEW = 20;
    private static final int MOST_FAINTING = 99;
    private static final int MOST_SEED = 1000000;
    private static final int DRAW_FACTOR = 1103;
    private static final int DRAW_MORE = 12345;
    private static final int DRAW_MODULUS = 1000003;

    private final House house;
    private final House[] images = new House[IMAGES];
    private final boolean[] imageKept = new boolean[IMAGES];
    private final int[] tape = new int[MOST_BYTES];
    private final Reader reader = new Reader();
    private final Steam steam;
    private final Past past = new Past();
    private final Moves moves;
    private final Errands errands;
    private final Seatings seatings;
    private final Room paper = new Room();
    private final Room latestMornings = new Room();
    private final int[] drops = new int[SEATS];
    private final int[] dropsAhead = new int[SEATS];
    private final long[] chances = new long[MOST_FEW];
    private final int[] refusals = new int[7];
    private int tapeLength;
    private int faultPlace = NONE;
    private int puffCount;
    private int latestRefusal;

    public SteamNations() {
        Text noLaw = new Text(new int[0], new int[0], 0);
        Machine machine = new Machine();
        house = new House(noLaw);
        for (int k = 0; k < IMAGES; k++) {
            images[k] = new House(noLaw);
        }
        steam = new Steam(machine);
        moves = new Moves(house, past, steam);
        errands = new Errands(moves, machine);
        seatings = new Seatings(steam);
    }

    public int sitter(int red, int blue, int green, int wish) {
        if (!canBeSitter(red, blue, green, wish)) {
            return answer(BAD_NUMBER);
        }
        if (house.room.sitters >= MOST_SITTERS) {
            return answer(NO_ROOM);
        }
        past.clear();
        return answerChanged(house.room.add(red, blue, green, wish));
    }

    public int of(int sitter, int what) {
        Room room = house.room;
        if (!room.has(sitter)) {
            return NONE;
        }
        switch (what) {
            case 0:
            case 1:
            case 2:
                return room.parts[sitter * NATIONS + what];
            case 3:
                return room.wishes[sitter];
            case 4:
                return room.seats[sitter];
            case 5:
                return room.nationOf(sitter);
            case 6:
                return room.isInside(sitter) ? oneIf(steam.anyHolds(room, house.inForce(), sitter, Reader.KEEPS)) : NONE;
            case 7:
                return room.isInside(sitter) ? oneIf(steam.anyHolds(room, house.inForce(), sitter, Reader.LEAVES)) : NONE;
            default:
                return NONE;
        }
    }

    public int at(int seat) {
        return house.room.whoAt(seat);
    }

    public int asks(int sitter, int other) {
        Room room = house.room;
        if (!room.isInside(sitter) || !room.isInside(other)) {
            return NONE;
        }
        if (!areBeside(room.seats[sitter], room.seats[other])) {
            return NONE;
        }
        return steam.partsTold(room, house.inForce(), sitter, other);
    }

    public int terms(int what, int value) {
        if (what < MINUTE || what > MOOD || value < 0 || value > MOST_OF_TERM[what]) {
            return answer(BAD_NUMBER);
        }
        int was = house.room.terms[what];
        house.room.terms[what] = value;
        past.clear();
        return answerChanged(was);
    }

    public int feed(int a, int b, int c, int d, int e) {
        if (tapeLength + BYTES_FED > MOST_BYTES) {
            return NONE;
        }
        putFour(a);
        putFour(b);
        putFour(c);
        putFour(d);
        putFour(e);
        return tapeLength;
    }

    public int end(int n) {
        if (n < 0 || n > tapeLength) {
            return NONE;
        }
        tapeLength = n;
        return n;
    }

    public int row() {
        if (tapeLength == 0) {
            return answer(BAD_TEXT);
        }
        int came = 0;
        puffCount = 0;
        for (int i = 0; i < tapeLength; i += BYTES_OF_SITTER) {
            if (sitterFromTape(i)) {
                came++;
            } else {
                puffCount++;
            }
        }
        tapeLength = 0;
        past.clear();
        return answerChanged(came);
    }

    public int puffs() {
        return puffCount;
    }

    public int law() {
        int length = takeTape();
        if (house.lawCount >= MOST_LAWS) {
            return answer(NO_ROOM);
        }
        Text text = reader.read(tape, length, false);
        faultPlace = reader.faultAt;
        if (text == null) {
            return answer(BAD_TEXT);
        }
        return answer(house.addLaw(text));
    }

    public int orders() {
        Text text = reader.read(tape, takeTape(), true);
        faultPlace = reader.faultAt;
        errands.stoppedAt = NONE;
        if (text == null) {
            return answer(BAD_TEXT);
        }
        return answerChanged(errands.run(text));
    }

    public int fault() {
        return faultPlace;
    }

    public int stopped() {
        return errands.stoppedAt;
    }

    public int force(int law) {
        if (law != NONE && !house.hasLaw(law)) {
            return answer(NO_SUCH);
        }
        int was = house.force;
        house.force = law;
        answerChanged(0);
        return was;
    }

    public int seat(int sitter, int seat) {
        return answerChanged(moves.toSeat(sitter, seat));
    }

    public int out(int sitter) {
        return answerChanged(moves.toSendOut(sitter));
    }

    public int swap(int one, int other) {
        return answerChanged(moves.toExchange(one, other));
    }

    public int pass() {
        return answerChanged(moves.toPassMinute());
    }

    public int undo() {
        return answerChanged(past.bringBack(house.room));
    }

    public int later(int sitter, int n, int what) {
        if (!house.room.has(sitter) || !isFarMinute(n) || what < 0 || what > NATIONS) {
            return NONE;
        }
        playOnPaper(house.inForce(), n);
        return what == NATIONS ? paper.nationOf(sitter) : paper.parts[sitter * NATIONS + what];
    }

    public int when(int sitter, int nation) {
        if (!house.room.has(sitter) || nation < 0 || nation >= NATIONS) {
            return NONE;
        }
        paper.copyFrom(house.room);
        for (int n = 0; n <= FAR_MINUTES; n++) {
            if (paper.nationOf(sitter) == nation) {
                return n;
            }
            steam.passMinute(paper, house.inForce());
        }
        return NONE;
    }

    public int one() {
        paper.copyFrom(house.room);
        for (int n = 0; n <= FAR_MINUTES; n++) {
            if (paper.insideAreOne()) {
                return n;
            }
            steam.passMinute(paper, house.inForce());
        }
        return NONE;
    }

    public int pleased(int n, int what) {
        if (!isNearMinute(n) || what < 0 || what > house.room.sitters) {
            return NONE;
        }
        seatings.lookAhead(house.room, house.inForce(), n);
        int best = seatings.bestAt(house.room, n);
        return what == 0 ? seatings.contentedIn(house.room, best, n) : seatings.seatIn(best, what - 1);
    }

    public int exchanges(int n, int what) {
        if (!isNearMinute(n) || what < 0 || what > 1) {
            return NONE;
        }
        seatings.lookAhead(house.room, house.inForce(), n);
        seatings.measure(house.room, n);
        return what == 0 ? seatings.fewestExchanges(house.room) : seatings.firstExchange(house.room);
    }

    public int seen(int sitter, int n, int nation) {
        if (!isNearMinute(n) || nation < 0 || nation >= NATIONS) {
            return answer(BAD_NUMBER);
        }
        if (!house.room.has(sitter)) {
            return answer(NO_SUCH);
        }
        if (house.sightCount >= MOST_SEEN) {
            return answer(NO_ROOM);
        }
        return answer(house.addSight(sitter, n, nation));
    }

    public int forget() {
        int were = house.sightCount;
        house.sightCount = 0;
        return were;
    }

    public int sat(int i, int sitter) {
        seatings.lookAhead(house.room, house.inForce(), house.latestSight());
        if (i == NONE) {
            return seatings.countSat(house);
        }
        if (i < 0 || !house.room.has(sitter)) {
            return NONE;
        }
        int found = seatings.findSat(house, i);
        return found == NONE ? NONE : seatings.seatIn(found, sitter);
    }

    public int ask(int n, int what) {
        if (!isNearMinute(n) || what < 0 || what > 1) {
            return NONE;
        }
        seatings.lookAhead(house.room, house.inForce(), Math.max(n, house.latestSight()));
        if (seatings.countSat(house) == 0) {
            return NONE;
        }
        int asked = NONE;
        int fewest = 0;
        for (int p = 0; p < house.room.sitters; p++) {
            int left = seatings.mostAlike(house, p, n);
            if (asked == NONE || left < fewest) {
                asked = p;
                fewest = left;
            }
        }
        return asked == NONE || what == 0 ? asked : fewest;
    }

    public int treaty(int k, int what) {
        if (k < 1 || k > MOST_PARTS_TOLD || what < 0 || what > 1) {
            return NONE;
        }
        int best = 0;
        for (int bits = 0; bits < 1 << house.room.sitters; bits++) {
            if (Integer.bitCount(bits) > Integer.bitCount(best) && house.room.isTreaty(bits, k)) {
                best = bits;
            }
        }
        return what == 0 ? Integer.bitCount(best) : best;
    }

    public int drop(int one, int n, int other) {
        Room room = house.room;
        if (!room.isInside(one) || !room.isInside(other) || !isFarMinute(n)) {
            return NONE;
        }
        Arrays.fill(drops, 0);
        drops[room.seats[one]] = DROP;
        for (int m = 0; m < n; m++) {
            spreadDrops(room);
        }
        return drops[room.seats[other]];
    }

    public long few(int k, int n) {
        if (k < 1 || k > MOST_FEW || n < 0 || n > MOST_FAINTING) {
            return NONE;
        }
        int faint = house.room.terms[FAINT];
        Arrays.fill(chances, 0L);
        chances[0] = WHOLE_CHANCE;
        for (int i = 0; i < n; i++) {
            for (int j = k - 1; j > 0; j--) {
                chances[j] = chances[j] * (10 - faint) / 10 + chances[j - 1] * faint / 10;
            }
            chances[0] = chances[0] * (10 - faint) / 10;
        }
        long sum = 0;
        for (int j = 0; j < k; j++) {
            sum += chances[j];
        }
        return sum;
    }

    public int compare(int law, int n) {
        if (law != NONE && !house.hasLaw(law) || !isFarMinute(n)) {
            return NONE;
        }
        playOnPaper(house.lawAt(law), n);
        return paper.contented();
    }

    public int mornings(int seed, int n) {
        if (seed < 0 || seed > MOST_SEED || n < 1 || n > FAR_MINUTES) {
            return answer(BAD_NUMBER);
        }
        int sitters = house.room.sitters;
        if (sitters == 0) {
            return answer(CANNOT);
        }
        latestMornings.copyFrom(house.room);
        int s = seed;
        for (int i = 0; i < n && latestMornings.terms[MINUTE] < LAST_MINUTE; i++) {
            s = nextDraw(s);
            int who = s % sitters;
            s = nextDraw(s);
            int where = s % SEATS;
            s = nextDraw(s);
            moveByDraw(who, where, s % 3);
            steam.passMinute(latestMornings, house.inForce());
        }
        return answer(latestMornings.contented());
    }

    public int drawn(int sitter, int what) {
        if (!latestMornings.has(sitter) || what < 0 || what > NATIONS) {
            return NONE;
        }
        return what == NATIONS ? latestMornings.seats[sitter] : latestMornings.parts[sitter * NATIONS + what];
    }

    public int image(int k) {
        if (k < 0 || k >= IMAGES) {
            return answer(BAD_NUMBER);
        }
        images[k].copyFrom(house);
        imageKept[k] = true;
        return answer(0);
    }

    public int back(int k) {
        if (k < 0 || k >= IMAGES) {
            return answer(BAD_NUMBER);
        }
        if (!imageKept[k]) {
            return answer(NO_SUCH);
        }
        house.copyFrom(images[k]);
        past.clear();
        return answerChanged(0);
    }

    public int count(int what) {
        switch (what) {
            case 0:
                return house.room.sitters;
            case 1:
                return house.room.countInside();
            case 2:
                return house.sightCount;
            case 3:
                return house.lawCount;
            case 4:
                return past.size;
            case 5:
                return tapeLength;
            case 6:
            case 7:
            case 8:
                return refusals[what - 5];
            case 9:
            case 10:
                return refusals[what - 4];
            case 11:
                return house.force;
            case 12:
            case 13:
            case 14:
                return house.room.terms[what - 12];
            case 15:
            case 16:
            case 17:
                return house.room.allPartsOf(what - 15);
            default:
                return NONE;
        }
    }

    public int status() {
        return latestRefusal;
    }

    /** What a call answers that can be REFUSED: below 0 it was. */
    private int answer(int told) {
        if (told < 0) {
            latestRefusal = told;
            if (-told < refusals.length) {
                refusals[-told]++;
            }
        } else {
            latestRefusal = 0;
        }
        return told;
    }

    /** The same of a call that changes what comes of seatings, if it is not REFUSED. */
    private int answerChanged(int told) {
        if (told >= 0) {
            seatings.makeStale();
        }
        return answer(told);
    }

    private void putFour(int number) {
        for (int shift = 24; shift >= 0 && tapeLength < MOST_BYTES; shift -= 8) {
            tape[tapeLength] = number >> shift & 255;
            tapeLength++;
        }
    }

    private int takeTape() {
        int length = tapeLength;
        tapeLength = 0;
        return length;
    }

    private boolean sitterFromTape(int from) {
        if (from < 0 || from + BYTES_OF_SITTER > tapeLength || house.room.sitters >= MOST_SITTERS) {
            return false;
        }
        if (!canBeSitter(tape[from], tape[from + 1], tape[from + 2], tape[from + 3])) {
            return false;
        }
        house.room.add(tape[from], tape[from + 1], tape[from + 2], tape[from + 3]);
        return true;
    }

    private void playOnPaper(Text law, int n) {
        paper.copyFrom(house.room);
        for (int m = 0; m < n; m++) {
            steam.passMinute(paper, law);
        }
    }

    private void spreadDrops(Room room) {
        System.arraycopy(drops, 0, dropsAhead, 0, SEATS);
        for (int from = 0; from < SEATS; from++) {
            int tenth = dropsAhead[from] / 10;
            for (int to = 0; to < SEATS; to++) {
                if (tenth > 0 && areBeside(from, to) && room.whoAt(to) != NONE) {
                    drops[from] -= tenth;
                    drops[to] += tenth;
                }
            }
        }
    }

    private void moveByDraw(int who, int where, int what) {
        if (what == 0 && latestMornings.whoAt(where) == NONE) {
            latestMornings.seats[who] = where;
        }
        if (what == 1) {
            latestMornings.seats[who] = NONE;
        }
    }

    private static int nextDraw(int s) {
        return (s * DRAW_FACTOR + DRAW_MORE) % DRAW_MODULUS;
    }

    private static boolean canBeSitter(int red, int blue, int green, int wish) {
        return canBeParts(red) && canBeParts(blue) && canBeParts(green) && wish >= 0 && wish < NATIONS;
    }

    private static boolean canBeParts(int parts) {
        return parts >= 0 && parts <= MOST_PARTS_TOLD;
    }

    private static boolean isFarMinute(int n) {
        return n >= 0 && n <= FAR_MINUTES;
    }

    private static boolean isNearMinute(int n) {
        return n >= 0 && n <= NEAR_MINUTES;
    }

    private static boolean areBeside(int seat, int other) {
        int tiers = Math.abs(seat / WIDTH - other / WIDTH);
        int places = Math.abs(seat % WIDTH - other % WIDTH);
        return tiers + places == 1;
    }

    private static int oneIf(boolean so) {
        return so ? 1 : 0;
    }

    /** The sitters, their seats and the terms: all that a minute can change. */
    private static final class Room {
        int sitters;
        final int[] parts = new int[MOST_SITTERS * NATIONS];
        final int[] wishes = new int[MOST_SITTERS];
        final int[] seats = new int[MOST_SITTERS];
        final int[] terms = new int[FIRST_OF_TERM.length];

        Room() {
            System.arraycopy(FIRST_OF_TERM, 0, terms, 0, terms.length);
        }

        void copyFrom(Room other) {
            sitters = other.sitters;
            System.arraycopy(other.parts, 0, parts, 0, parts.length);
            System.arraycopy(other.wishes, 0, wishes, 0, wishes.length);
            System.arraycopy(other.seats, 0, seats, 0, seats.length);
            System.arraycopy(other.terms, 0, terms, 0, terms.length);
        }

        int add(int red, int blue, int green, int wish) {
            if (sitters >= MOST_SITTERS) {
                return NONE;
            }
            int number = sitters;
            parts[number * NATIONS] = red;
            parts[number * NATIONS + 1] = blue;
            parts[number * NATIONS + 2] = green;
            wishes[number] = wish;
            seats[number] = NONE;
            sitters++;
            return number;
        }

        boolean has(int sitter) {
            return sitter >= 0 && sitter < sitters;
        }

        boolean isInside(int sitter) {
            return has(sitter) && seats[sitter] != NONE;
        }

        int whoAt(int place) {
            for (int p = 0; p < sitters; p++) {
                if (seats[p] == place && place != NONE) {
                    return p;
                }
            }
            return NONE;
        }

        int countInside() {
            int inside = 0;
            for (int p = 0; p < sitters; p++) {
                inside += oneIf(seats[p] != NONE);
            }
            return inside;
        }

        int nationOf(int sitter) {
            if (sitter < 0 || sitter >= sitters) {
                return NONE;
            }
            int most = 0;
            for (int nation = 1; nation < NATIONS; nation++) {
                if (parts[sitter * NATIONS + nation] > parts[sitter * NATIONS + most]) {
                    most = nation;
                }
            }
            return most;
        }

        int muchOf(int sitter) {
            return has(sitter) ? parts[sitter * NATIONS + nationOf(sitter)] : NONE;
        }

        int contented() {
            int many = 0;
            for (int p = 0; p < sitters; p++) {
                many += oneIf(nationOf(p) == wishes[p]);
            }
            return many;
        }

        int allPartsOf(int nation) {
            int all = 0;
            for (int p = 0; p < sitters; p++) {
                all += parts[p * NATIONS + nation];
            }
            return all;
        }

        boolean insideAreOne() {
            int nation = NONE;
            for (int p = 0; p < sitters; p++) {
                if (seats[p] == NONE) {
                    continue;
                }
                if (nation != NONE && nationOf(p) != nation) {
                    return false;
                }
                nation = nationOf(p);
            }
            return true;
        }

        boolean isTreaty(int bits, int k) {
            for (int p = 0; p < sitters; p++) {
                for (int q = p + 1; q < sitters; q++) {
                    boolean both = (bits >> p & 1) == 1 && (bits >> q & 1) == 1;
                    if (both && inCommon(p, q) < k) {
                        return false;
                    }
                }
            }
            return true;
        }

        private int inCommon(int p, int q) {
            int common = 0;
            for (int nation = 0; nation < NATIONS; nation++) {
                common += Math.min(parts[p * NATIONS + nation], parts[q * NATIONS + nation]);
            }
            return common;
        }
    }

    /** All that an image keeps. */
    private static final class House {
        private static final int OF_SIGHT = 3;

        final Room room = new Room();
        final Text noLaw;
        final Text[] laws = new Text[MOST_LAWS];
        int lawCount;
        int force = NONE;
        final int[] sights = new int[MOST_SEEN * OF_SIGHT];
        int sightCount;

        House(Text noLaw) {
            this.noLaw = noLaw;
        }

        void copyFrom(House other) {
            room.copyFrom(other.room);
            for (int i = 0; i < MOST_LAWS; i++) {
                laws[i] = other.laws[i];
            }
            lawCount = other.lawCount;
            force = other.force;
            System.arraycopy(other.sights, 0, sights, 0, sights.length);
            sightCount = other.sightCount;
        }

        boolean hasLaw(int number) {
            return number >= 0 && number < lawCount && number < MOST_LAWS;
        }

        Text lawAt(int number) {
            return hasLaw(number) && laws[number] != null ? laws[number] : noLaw;
        }

        Text inForce() {
            return lawAt(force);
        }

        int addLaw(Text text) {
            if (lawCount >= MOST_LAWS) {
                return NO_ROOM;
            }
            laws[lawCount] = text;
            lawCount++;
            return lawCount - 1;
        }

        int addSight(int sitter, int n, int nation) {
            if (sightCount >= MOST_SEEN) {
                return NO_ROOM;
            }
            sights[sightCount * OF_SIGHT] = sitter;
            sights[sightCount * OF_SIGHT + 1] = n;
            sights[sightCount * OF_SIGHT + 2] = nation;
            sightCount++;
            return sightCount;
        }

        int sightSitter(int i) {
            return sights[i * OF_SIGHT];
        }

        int sightMinutes(int i) {
            return sights[i * OF_SIGHT + 1];
        }

        int sightNation(int i) {
            return sights[i * OF_SIGHT + 2];
        }

        int latestSight() {
            int latest = 0;
            for (int i = 0; i < sightCount; i++) {
                latest = Math.max(latest, sightMinutes(i));
            }
            return latest;
        }
    }

    /** A text that was read: what the machine runs, and marks of where each clause has what. */
    private static final class Text {
        static final int KIND = 0;
        static final int TIMES = 1;
        static final int FIRST_SUM = 2;
        static final int SECOND_SUM = 3;
        static final int TEST = 4;
        static final int STOP = 5;
        static final int MARKS = 6;

        final int[] code;
        final int[] marks;
        final int clauses;
        private final int kindBits;

        Text(int[] code, int[] marks, int clauses) {
            this.code = code;
            this.marks = marks;
            this.clauses = clauses;
            int bits = 0;
            for (int i = KIND; i < marks.length; i += MARKS) {
                bits |= 1 << marks[i];
            }
            kindBits = bits;
        }

        boolean hasKind(int kind) {
            return (kindBits >> kind & 1) == 1;
        }

        int markOf(int clause, int which) {
            int i = clause * MARKS + which;
            return i >= 0 && i < marks.length ? marks[i] : NONE;
        }
    }

    /** Works out sums and tests of a text; each step is a kind and a number. */
    private static final class Machine {
        static final int BROKEN = Integer.MIN_VALUE;
        static final int FARTHEST = 1000000000;
        static final int OF_STEP = 2;

        static final int NUMBER = 0;
        static final int WORD = 1;
        static final int PLUS = 2;
        static final int MINUS = 3;
        static final int MULTIPLY = 4;
        static final int DIVIDE = 5;
        static final int REMAIN = 6;
        static final int LESS = 7;
        static final int MORE = 8;
        static final int SAME = 9;
        static final int NOT = 10;
        static final int AND = 11;
        static final int OR = 12;

        final int[] words = new int[Reader.SAID_WORDS];
        private final int[] stack = new int[64];

        /** The sum or the test from a mark to the next one, or BROKEN; 1 (it is so) if none stands there. */
        int workOut(Text text, int clause, int mark) {
            int to = Math.min(text.markOf(clause, mark + 1), text.code.length / OF_STEP);
            int top = 0;
            stack[0] = 1;
            for (int step = Math.max(0, text.markOf(clause, mark)); step < to; step++) {
                int kind = text.code[step * OF_STEP];
                int number = text.code[step * OF_STEP + 1];
                if (kind <= WORD) {
                    if (top >= stack.length) {
                        return BROKEN;
                    }
                    stack[top] = kind == NUMBER ? number : wordAt(number);
                    top++;
                } else if (kind < NOT) {
                    if (top < 2) {
                        return BROKEN;
                    }
                    top--;
                    stack[top - 1] = join(kind, stack[top - 1], stack[top]);
                    if (stack[top - 1] == BROKEN) {
                        return BROKEN;
                    }
                } else if (top < 1) {
                    return BROKEN;
                } else if (kind == NOT) {
                    stack[top - 1] = 1 - stack[top - 1];
                } else if (stack[top - 1] == (kind == OR ? 1 : 0)) {
                    // What stands behind can't matter: on to where it ends.
                    step = Math.max(step, number - 1);
                } else {
                    top--;
                }
            }
            return stack[0];
        }

        private int wordAt(int number) {
            return number >= 0 && number < words.length ? words[number] : NONE;
        }

        private static int join(int kind, int left, int right) {
            if (right == 0 && (kind == DIVIDE || kind == REMAIN)) {
                return BROKEN;
            }
            long joined = left;
            switch (kind) {
                case PLUS:
                    joined += right;
                    break;
                case MINUS:
                    joined -= right;
                    break;
                case MULTIPLY:
                    joined *= right;
                    break;
                case DIVIDE:
                    joined /= right;
                    break;
                case REMAIN:
                    joined %= right;
                    break;
                case LESS:
                    return left < right ? 1 : 0;
                case MORE:
                    return left > right ? 1 : 0;
                default:
                    return left == right ? 1 : 0;
            }
            return joined > FARTHEST || joined < -FARTHEST ? BROKEN : (int) joined;
        }
    }

    /** Reads a text of either language: first its tokens, then its clauses. */
    private static final class Reader {
        // Each word is numbered by its place in WORDS.
        private static final String WORDS =
                "sitter other tier nation much wish minute mood done latest inside pleased is passes keeps leaves seat out swap pass at with times if or and not ";
        static final int SITTER = 0;
        static final int OTHER = 1;
        static final int TIER = 2;
        static final int NATION = 3;
        static final int MUCH = 4;
        static final int WISH = 5;
        static final int MINUTE_NOW = 6;
        static final int MOOD_NOW = 7;
        static final int DONE = 8;
        static final int LATEST = 9;
        static final int INSIDE = 10;
        static final int PLEASED = 11;
        static final int IS = 12;
        static final int PASSES = 13;
        static final int KEEPS = 14;
        static final int LEAVES = 15;
        static final int SEAT = 16;
        static final int OUT = 17;
        static final int SWAP = 18;
        static final int PASS = 19;
        private static final int AT = 20;
        private static final int WITH = 21;
        private static final int TIMES = 22;
        private static final int IF = 23;
        private static final int OR = 24;
        private static final int AND = 25;
        private static final int NOT = 26;

        // What the machine is told of: "is P", "much P" have a number for each P.
        static final int IS_OF = IS;
        static final int MUCH_OF = IS_OF + MOST_SITTERS;
        static final int SAID_WORDS = MUCH_OF + MOST_SITTERS;

        private static final int NO_WORD = 27;
        private static final int DIGITS = 28;
        private static final int AT_END = 29;
        private static final int SIGNS_FROM = 100;

        private static final int MOST_NUMBER = 1000;
        private static final int MOST_PARTS = 50;
        private static final int MOST_DEPTH = 8;
        private static final int MOST_TIMES = 20;
        private static final int BLANK = 32;

        private final int[] kinds = new int[MOST_BYTES + 1];
        private final int[] starts = new int[MOST_BYTES + 1];
        private final int[] numbers = new int[MOST_BYTES + 1];
        private final int[] code = new int[MOST_BYTES * Machine.OF_STEP];
        private final int[] marks = new int[MOST_CLAUSES * Text.MARKS];
        private boolean isOrders;
        private int now;
        private int kind;
        private int steps;
        private int parts;
        int faultAt = NONE;

        /** The text, or null with faultAt, if it can't be. */
        Text read(int[] bytes, int length, boolean isOrders) {
            this.isOrders = isOrders;
            steps = 0;
            parts = 0;
            faultAt = NONE;
            cut(bytes, Math.min(length, bytes.length));
            now = NONE;
            goOn();
            for (int c = 0; c < MOST_CLAUSES; c++) {
                boolean well = isOrders ? readOrder(c) : readRule(c);
                if (!well || !readIf(c)) {
                    return null;
                }
                if (kind == AT_END) {
                    return new Text(Arrays.copyOf(code, steps * Machine.OF_STEP),
                            Arrays.copyOf(marks, (c + 1) * Text.MARKS), c + 1);
                }
                if (!takeSign(';')) {
                    return null;
                }
            }
            wrong();
            return null;
        }

        /** Cuts the bytes into tokens, the end behind them. */
        private void cut(int[] bytes, int length) {
            int tokens = 0;
            int i = 0;
            while (i < length && tokens < MOST_BYTES) {
                int from = i;
                i++;
                if (bytes[from] == BLANK) {
                    continue;
                }
                starts[tokens] = from;
                if (isLetter(bytes[from])) {
                    while (i < length && isLetter(bytes[i])) {
                        i++;
                    }
                    kinds[tokens] = wordNumber(bytes, from, i);
                } else if (isDigit(bytes[from])) {
                    while (i < length && isDigit(bytes[i])) {
                        i++;
                    }
                    kinds[tokens] = DIGITS;
                    numbers[tokens] = valueOf(bytes, from, i);
                } else {
                    kinds[tokens] = SIGNS_FROM + bytes[from];
                }
                tokens++;
            }
            starts[tokens] = length;
            kinds[tokens] = AT_END;
        }

        private static boolean isLetter(int sign) {
            return sign >= 'a' && sign <= 'z';
        }

        private static boolean isDigit(int sign) {
            return sign >= '0' && sign <= '9';
        }

        private static int wordNumber(int[] bytes, int from, int to) {
            int word = 0;
            int i = from;
            boolean alike = true;
            for (int k = 0; k < WORDS.length(); k++) {
                char letter = WORDS.charAt(k);
                if (letter != BLANK) {
                    alike = alike && i < to && bytes[i] == letter;
                    i++;
                } else if (alike && i == to) {
                    return word;
                } else {
                    word++;
                    i = from;
                    alike = true;
                }
            }
            return NO_WORD;
        }

        /** The number of these digits; one too high, if it is beyond all that can be. */
        private static int valueOf(int[] bytes, int from, int to) {
            int number = 0;
            for (int i = from; i < to; i++) {
                number = Math.min(number * 10 + bytes[i] - '0', MOST_NUMBER + 1);
            }
            return number;
        }

        private boolean readRule(int c) {
            int which = kind;
            if (which != PASSES && which != KEEPS && which != LEAVES) {
                return wrong();
            }
            goOn();
            mark(c, Text.KIND, which);
            mark(c, Text.TIMES, 1);
            mark(c, Text.FIRST_SUM, steps);
            boolean well = which != PASSES || readSum(0);
            mark(c, Text.SECOND_SUM, steps);
            return well;
        }

        private boolean readOrder(int c) {
            int which = kind;
            if (which != SEAT && which != OUT && which != SWAP && which != PASS) {
                return wrong();
            }
            goOn();
            mark(c, Text.KIND, which);
            mark(c, Text.FIRST_SUM, steps);
            if (which != PASS && !readSum(0)) {
                return false;
            }
            mark(c, Text.SECOND_SUM, steps);
            if (which == SEAT || which == SWAP) {
                if (!takeIf(which == SEAT ? AT : WITH)) {
                    return wrong();
                }
                if (!readSum(0)) {
                    return false;
                }
            }
            return readTimes(c);
        }

        private boolean readTimes(int c) {
            mark(c, Text.TIMES, 1);
            if (!takeIf(TIMES)) {
                return true;
            }
            int times = numberHere();
            if (times < 1 || times > MOST_TIMES) {
                return wrong();
            }
            goOn();
            mark(c, Text.TIMES, times);
            return true;
        }

        private boolean readIf(int c) {
            mark(c, Text.TEST, steps);
            boolean well = !takeIf(IF) || readTest(0);
            mark(c, Text.STOP, steps);
            return well;
        }

        private boolean readTest(int depth) {
            boolean well = readBoth(depth);
            for (int i = 0; i < MOST_BYTES && well && takeIf(OR); i++) {
                int jump = put(Machine.OR, 0);
                well = readBoth(depth);
                land(jump);
            }
            return well;
        }

        private boolean readBoth(int depth) {
            boolean well = readPlain(depth);
            for (int i = 0; i < MOST_BYTES && well && takeIf(AND); i++) {
                int jump = put(Machine.AND, 0);
                well = readPlain(depth);
                land(jump);
            }
            return well;
        }

        private boolean readPlain(int depth) {
            boolean turned = false;
            // A loop, since a text can have a hundred of them in a row.
            for (int i = 0; i < MOST_BYTES && takeIf(NOT); i++) {
                turned = !turned;
            }
            boolean well;
            if (isSign('(')) {
                well = canOpen(depth) && takeSign('(') && readTest(depth + 1) && takeSign(')');
            } else {
                well = readComparison(depth);
            }
            if (turned) {
                put(Machine.NOT, 0);
            }
            return well;
        }

        private boolean readComparison(int depth) {
            if (!readSum(depth)) {
                return false;
            }
            int which = Machine.SAME;
            if (isSign('<')) {
                which = Machine.LESS;
            } else if (isSign('>')) {
                which = Machine.MORE;
            } else if (!isSign('=')) {
                return wrong();
            }
            goOn();
            boolean well = readSum(depth);
            put(which, 0);
            return well;
        }

        private boolean readSum(int depth) {
            boolean well = readTerm(depth);
            for (int i = 0; i < MOST_BYTES && well && (isSign('+') || isSign('-')); i++) {
                int which = isSign('+') ? Machine.PLUS : Machine.MINUS;
                goOn();
                well = readTerm(depth);
                put(which, 0);
            }
            return well;
        }

        private boolean readTerm(int depth) {
            boolean well = readPart(depth);
            for (int i = 0; i < MOST_BYTES && well && (isSign('*') || isSign('/') || isSign('%')); i++) {
                int which = isSign('*') ? Machine.MULTIPLY : isSign('/') ? Machine.DIVIDE : Machine.REMAIN;
                goOn();
                well = readPart(depth);
                put(which, 0);
            }
            return well;
        }

        private boolean readPart(int depth) {
            if (isSign('[')) {
                return canOpen(depth) && takeSign('[') && readSum(depth + 1) && takeSign(']');
            }
            if (parts >= MOST_PARTS) {
                return wrong();
            }
            parts++;
            int number = numberHere();
            if (number == NONE) {
                return isOrders ? readOrdersWord() : readLawWord();
            }
            if (number > MOST_NUMBER) {
                return wrong();
            }
            put(Machine.NUMBER, number);
            goOn();
            return true;
        }

        private boolean readLawWord() {
            if (kind > MOOD_NOW) {
                return wrong();
            }
            put(Machine.WORD, kind);
            goOn();
            return true;
        }

        private boolean readOrdersWord() {
            int word = kind;
            boolean isPlain = word == MINUTE_NOW || word >= DONE && word <= PLEASED;
            if (!isPlain && word != IS && word != MUCH) {
                return wrong();
            }
            goOn();
            if (isPlain) {
                put(Machine.WORD, word);
                return true;
            }
            int sitter = numberHere();
            if (sitter < 0 || sitter >= MOST_SITTERS) {
                return wrong();
            }
            put(Machine.WORD, sitter + (word == IS ? IS_OF : MUCH_OF));
            goOn();
            return true;
        }

        private boolean canOpen(int depth) {
            return depth < MOST_DEPTH || wrong();
        }

        private boolean takeSign(char sign) {
            if (kind != SIGNS_FROM + sign) {
                return wrong();
            }
            goOn();
            return true;
        }

        private boolean takeIf(int word) {
            if (kind != word) {
                return false;
            }
            goOn();
            return true;
        }

        private boolean isSign(char sign) {
            return kind == SIGNS_FROM + sign;
        }

        private int numberHere() {
            return kind == DIGITS && now >= 0 && now < numbers.length ? numbers[now] : NONE;
        }

        private void goOn() {
            now++;
            kind = now >= 0 && now < kinds.length ? kinds[now] : AT_END;
        }

        /** The token here can't go on: it is the fault. */
        private boolean wrong() {
            if (now >= 0 && now < starts.length) {
                faultAt = starts[now];
            }
            return false;
        }

        private int put(int step, int number) {
            if (steps < MOST_BYTES) {
                code[steps * Machine.OF_STEP] = step;
                code[steps * Machine.OF_STEP + 1] = number;
                steps++;
            }
            return steps - 1;
        }

        private void land(int jump) {
            if (jump >= 0 && jump < MOST_BYTES) {
                code[jump * Machine.OF_STEP + 1] = steps;
            }
        }

        private void mark(int c, int which, int value) {
            int i = c * Text.MARKS + which;
            if (i >= 0 && i < marks.length) {
                marks[i] = value;
            }
        }
    }

    /** What a law asks of sitters, and a minute by it. */
    private static final class Steam {
        private static final int MOST_PASSED = 9;
        private static final int PASSED_WITHOUT = 1;

        private final Machine machine;
        private final int[] changes = new int[MOST_SITTERS * NATIONS];
        private final int[] whoIs = new int[SEATS];

        Steam(Machine machine) {
            this.machine = machine;
        }

        /** Whether a "keeps", a "leaves" holds. */
        boolean anyHolds(Room room, Text law, int sitter, int kind) {
            if (!law.hasKind(kind)) {
                return false;
            }
            sayWords(room, sitter, NONE);
            for (int c = 0; c < law.clauses; c++) {
                if (law.markOf(c, Text.KIND) == kind && machine.workOut(law, c, Text.TEST) == 1) {
                    return true;
                }
            }
            return false;
        }

        /** How many parts a sitter passes to one beside. */
        int partsTold(Room room, Text law, int sitter, int other) {
            if (!law.hasKind(Reader.PASSES)) {
                return PASSED_WITHOUT;
            }
            sayWords(room, sitter, room.nationOf(other));
            for (int c = law.clauses - 1; c >= 0; c--) {
                if (law.markOf(c, Text.KIND) == Reader.PASSES && machine.workOut(law, c, Text.TEST) == 1) {
                    int told = machine.workOut(law, c, Text.FIRST_SUM);
                    if (told != Machine.BROKEN) {
                        return Math.max(0, Math.min(told, MOST_PASSED));
                    }
                }
            }
            return PASSED_WITHOUT;
        }

        void passMinute(Room room, Text law) {
            Arrays.fill(changes, 0);
            seeWho(room);
            for (int p = 0; p < room.sitters; p++) {
                if (room.seats[p] == NONE || anyHolds(room, law, p, Reader.KEEPS)) {
                    continue;
                }
                int nation = room.nationOf(p);
                int left = room.parts[p * NATIONS + nation];
                for (int i = 0; i < MOST_BESIDE && left > 0; i++) {
                    int other = whoBeside(room.seats[p], i);
                    if (other != NONE) {
                        int passed = Math.min(left, partsTold(room, law, p, other));
                        left -= passed;
                        changes[p * NATIONS + nation] -= passed;
                        changes[other * NATIONS + nation] += passed;
                    }
                }
            }
            for (int i = 0; i < changes.length; i++) {
                room.parts[i] += changes[i];
            }
            for (int p = 0; p < room.sitters; p++) {
                if (room.seats[p] != NONE && anyHolds(room, law, p, Reader.LEAVES)) {
                    room.seats[p] = NONE;
                }
            }
            room.terms[MINUTE]++;
        }

        private void seeWho(Room room) {
            Arrays.fill(whoIs, NONE);
            for (int p = 0; p < room.sitters; p++) {
                int place = room.seats[p];
                if (place >= 0 && place < SEATS) {
                    whoIs[place] = p;
                }
            }
        }

        private int whoBeside(int place, int i) {
            int beside = place >= 0 && place < SEATS ? BESIDE[place * MOST_BESIDE + i] : NONE;
            return beside == NONE ? NONE : whoIs[beside];
        }

        private void sayWords(Room room, int sitter, int other) {
            int nation = room.nationOf(sitter);
            machine.words[Reader.SITTER] = sitter;
            machine.words[Reader.OTHER] = other;
            machine.words[Reader.TIER] = room.seats[sitter] / WIDTH;
            machine.words[Reader.NATION] = nation;
            machine.words[Reader.MUCH] = room.parts[sitter * NATIONS + nation];
            machine.words[Reader.WISH] = room.wishes[sitter];
            machine.words[Reader.MINUTE_NOW] = room.terms[MINUTE];
            machine.words[Reader.MOOD_NOW] = room.terms[MOOD];
        }
    }

    /** What can be undone: the room as it was ahead of the latest moves, in a ring. */
    private static final class Past {
        private static final int MOST = 16;
        private static final int SEATS_FROM = 2;
        private static final int PARTS_FROM = SEATS_FROM + MOST_SITTERS;
        private static final int OF_MOVE = PARTS_FROM + MOST_SITTERS * NATIONS;

        private final int[] kept = new int[MOST * OF_MOVE];
        private int next;
        int size;

        void clear() {
            size = 0;
        }

        void copyFrom(Past other) {
            System.arraycopy(other.kept, 0, kept, 0, kept.length);
            next = other.next;
            size = other.size;
        }

        void keep(int kind, Room room) {
            int i = next * OF_MOVE;
            kept[i] = kind;
            kept[i + 1] = room.terms[MINUTE];
            System.arraycopy(room.seats, 0, kept, i + SEATS_FROM, room.seats.length);
            System.arraycopy(room.parts, 0, kept, i + PARTS_FROM, room.parts.length);
            next = (next + 1) % MOST;
            size = Math.min(size + 1, MOST);
        }

        /** The kind of the move that is undone, or CANNOT. */
        int bringBack(Room room) {
            if (size == 0) {
                return CANNOT;
            }
            size--;
            next = (next + MOST - 1) % MOST;
            int i = next * OF_MOVE;
            room.terms[MINUTE] = kept[i + 1];
            System.arraycopy(kept, i + SEATS_FROM, room.seats, 0, room.seats.length);
            System.arraycopy(kept, i + PARTS_FROM, room.parts, 0, room.parts.length);
            return kept[i];
        }
    }

    /** The four moves, by calls and by orders: an answer, or what it is refused by. */
    private static final class Moves {
        final House house;
        final Past past;
        private final Steam steam;

        Moves(House house, Past past, Steam steam) {
            this.house = house;
            this.past = past;
            this.steam = steam;
        }

        int toSeat(int sitter, int place) {
            Room room = house.room;
            if (place < 0 || place >= SEATS) {
                return BAD_NUMBER;
            }
            if (!room.has(sitter)) {
                return NO_SUCH;
            }
            if (room.whoAt(place) != NONE) {
                return CANNOT;
            }
            past.keep(DID_SEAT, room);
            room.seats[sitter] = place;
            return room.countInside();
        }

        int toSendOut(int sitter) {
            Room room = house.room;
            if (!room.has(sitter)) {
                return NO_SUCH;
            }
            if (!room.isInside(sitter)) {
                return CANNOT;
            }
            past.keep(DID_OUT, room);
            int place = room.seats[sitter];
            room.seats[sitter] = NONE;
            return place;
        }

        int toExchange(int one, int other) {
            Room room = house.room;
            if (one == other) {
                return BAD_NUMBER;
            }
            if (!room.has(one) || !room.has(other)) {
                return NO_SUCH;
            }
            if (!room.isInside(one) || !room.isInside(other)) {
                return CANNOT;
            }
            past.keep(DID_SWAP, room);
            int place = room.seats[one];
            room.seats[one] = room.seats[other];
            room.seats[other] = place;
            return room.seats[one];
        }

        int toPassMinute() {
            Room room = house.room;
            if (room.terms[MINUTE] >= LAST_MINUTE) {
                return CANNOT;
            }
            past.keep(DID_MINUTE, room);
            steam.passMinute(room, house.inForce());
            return room.terms[MINUTE];
        }
    }

    /** Runs orders, wholly or not at all. */
    private static final class Errands {
        private final Moves moves;
        private final Machine machine;
        private final Room roomAhead = new Room();
        private final Past pastAhead = new Past();
        private int done;
        private int latest;
        int stoppedAt = NONE;

        Errands(Moves moves, Machine machine) {
            this.moves = moves;
            this.machine = machine;
        }

        /** How many were run, or CANNOT. */
        int run(Text text) {
            roomAhead.copyFrom(moves.house.room);
            pastAhead.copyFrom(moves.past);
            done = 0;
            latest = NONE;
            for (int c = 0; c < text.clauses; c++) {
                for (int i = 0; i < text.markOf(c, Text.TIMES); i++) {
                    sayWords(moves.house.room);
                    if (machine.workOut(text, c, Text.TEST) == 1 && !canMove(text, c)) {
                        stoppedAt = c;
                        moves.house.room.copyFrom(roomAhead);
                        moves.past.copyFrom(pastAhead);
                        return CANNOT;
                    }
                }
            }
            return done;
        }

        private boolean canMove(Text text, int c) {
            int first = machine.workOut(text, c, Text.FIRST_SUM);
            int second = machine.workOut(text, c, Text.SECOND_SUM);
            if (first == Machine.BROKEN || second == Machine.BROKEN) {
                return false;
            }
            int told;
            switch (text.markOf(c, Text.KIND)) {
                case Reader.SEAT:
                    told = moves.toSeat(first, second);
                    break;
                case Reader.OUT:
                    told = moves.toSendOut(first);
                    latest = told;
                    break;
                case Reader.SWAP:
                    told = moves.toExchange(first, second);
                    break;
                default:
                    told = moves.toPassMinute();
                    break;
            }
            done++;
            return told >= 0;
        }

        private void sayWords(Room room) {
            machine.words[Reader.MINUTE_NOW] = room.terms[MINUTE];
            machine.words[Reader.DONE] = done;
            machine.words[Reader.LATEST] = latest;
            machine.words[Reader.INSIDE] = room.countInside();
            machine.words[Reader.PLEASED] = room.contented();
            for (int p = 0; p < MOST_SITTERS; p++) {
                machine.words[Reader.IS_OF + p] = room.nationOf(p);
                machine.words[Reader.MUCH_OF + p] = room.muchOf(p);
            }
        }
    }

    /** All seatings in the order of their rows, and what each makes of the sitters by minutes. */
    private static final class Seatings {
        private static final int SEAT_BITS = 4;
        private static final int OUT_BITS = 15;
        private static final int NATION_BITS = 2;
        private static final int MINUTES = NEAR_MINUTES + 1;

        private final Steam steam;
        private final Room paper = new Room();
        private final int[] rows = new int[MOST_SEATINGS];
        private final int[] nations = new int[MOST_SEATINGS * MINUTES];
        private final int[] far = new int[MOST_SEATINGS];
        private final int[] queue = new int[MOST_SEATINGS];
        private final int[] insiders = new int[MOST_SITTERS];
        private final int[] places = new int[MOST_SITTERS];
        private final int[] alike = new int[NATIONS];
        private int inside;
        private int many;
        private int known = NONE;

        Seatings(Steam steam) {
            this.steam = steam;
        }

        void makeStale() {
            known = NONE;
        }

        void lookAhead(Room room, Text law, int n) {
            if (n <= known || n > NEAR_MINUTES) {
                return;
            }
            known = n;
            many = 0;
            listInside(room);
            boolean more = true;
            for (int q = 0; q < MOST_SEATINGS && more; q++) {
                playSeating(room, law, q, n);
                many++;
                more = toNextOrder();
            }
        }

        int seatIn(int q, int sitter) {
            return isSeating(q) ? seatOfRow(rows[q], sitter) : NONE;
        }

        int contentedIn(Room room, int q, int n) {
            int pleased = 0;
            for (int p = 0; p < room.sitters; p++) {
                pleased += oneIf(nationIn(q, n, p) == room.wishes[p]);
            }
            return pleased;
        }

        int bestAt(Room room, int n) {
            int best = 0;
            int most = NONE;
            for (int q = 0; q < many; q++) {
                int pleased = contentedIn(room, q, n);
                if (pleased > most) {
                    best = q;
                    most = pleased;
                }
            }
            return best;
        }

        /** How many exchanges each seating is away from the nearest of the best ones. */
        void measure(Room room, int n) {
            int most = contentedIn(room, bestAt(room, n), n);
            int waiting = 0;
            for (int q = 0; q < many; q++) {
                far[q] = NONE;
                if (contentedIn(room, q, n) == most) {
                    far[q] = 0;
                    queue[waiting] = q;
                    waiting++;
                }
            }
            for (int i = 0; i < waiting && i < MOST_SEATINGS; i++) {
                waiting = reachFrom(queue[i], waiting);
            }
        }

        int fewestExchanges(Room room) {
            return farOf(rowOf(room));
        }

        int firstExchange(Room room) {
            int row = rowOf(room);
            int left = farOf(row);
            if (left < 1) {
                return NONE;
            }
            for (int i = 0; i < inside; i++) {
                for (int j = i + 1; j < inside; j++) {
                    int one = insiders[i];
                    int other = insiders[j];
                    if (canExchange(row, one, other) && farOf(exchanged(row, one, other)) == left - 1) {
                        return 10 * one + other;
                    }
                }
            }
            return NONE;
        }

        int countSat(House house) {
            int fitting = 0;
            for (int q = 0; q < many; q++) {
                fitting += oneIf(fits(house, q));
            }
            return fitting;
        }

        int findSat(House house, int i) {
            int passed = 0;
            for (int q = 0; q < many; q++) {
                if (fits(house, q)) {
                    if (passed == i) {
                        return q;
                    }
                    passed++;
                }
            }
            return NONE;
        }

        /** The most seatings of those that fit what was seen that make a sitter the same nation. */
        int mostAlike(House house, int sitter, int n) {
            Arrays.fill(alike, 0);
            for (int q = 0; q < many; q++) {
                int nation = nationIn(q, n, sitter);
                if (nation >= 0 && nation < NATIONS && fits(house, q)) {
                    alike[nation]++;
                }
            }
            return Math.max(alike[0], Math.max(alike[1], alike[2]));
        }

        private boolean fits(House house, int q) {
            for (int i = 0; i < house.sightCount; i++) {
                if (nationIn(q, house.sightMinutes(i), house.sightSitter(i)) != house.sightNation(i)) {
                    return false;
                }
            }
            return true;
        }

        private void listInside(Room room) {
            inside = 0;
            for (int p = 0; p < room.sitters; p++) {
                if (room.isInside(p)) {
                    insiders[inside] = p;
                    inside++;
                }
            }
            int taken = 0;
            for (int place = 0; place < SEATS; place++) {
                if (room.whoAt(place) != NONE && taken < inside) {
                    places[taken] = place;
                    taken++;
                }
            }
        }

        private void playSeating(Room room, Text law, int q, int n) {
            paper.copyFrom(room);
            for (int i = 0; i < inside; i++) {
                paper.seats[insiders[i]] = places[i];
            }
            rows[q] = rowOf(paper);
            for (int m = 0; m <= n; m++) {
                if (m > 0) {
                    steam.passMinute(paper, law);
                }
                int all = 0;
                for (int p = 0; p < paper.sitters; p++) {
                    all |= paper.nationOf(p) << NATION_BITS * p;
                }
                nations[q * MINUTES + m] = all;
            }
        }

        /** The next order of the places as a row; false behind the last one. */
        private boolean toNextOrder() {
            int i = inside - 2;
            while (i >= 0 && places[i] > places[i + 1]) {
                i--;
            }
            if (i < 0) {
                return false;
            }
            int j = inside - 1;
            while (j > i && places[j] < places[i]) {
                j--;
            }
            exchangePlaces(i, j);
            int low = i + 1;
            int high = inside - 1;
            while (low < high) {
                exchangePlaces(low, high);
                low++;
                high--;
            }
            return true;
        }

        private void exchangePlaces(int i, int j) {
            int place = places[i];
            places[i] = places[j];
            places[j] = place;
        }

        private int reachFrom(int q, int waiting) {
            int behind = waiting;
            for (int i = 0; i < inside; i++) {
                for (int j = i + 1; j < inside; j++) {
                    if (canExchange(rows[q], insiders[i], insiders[j])) {
                        int reached = rankOf(exchanged(rows[q], insiders[i], insiders[j]));
                        if (isSeating(reached) && far[reached] == NONE && behind < MOST_SEATINGS) {
                            far[reached] = far[q] + 1;
                            queue[behind] = reached;
                            behind++;
                        }
                    }
                }
            }
            return behind;
        }

        private boolean canExchange(int row, int one, int other) {
            return areBeside(seatOfRow(row, one), seatOfRow(row, other));
        }

        private static int exchanged(int row, int one, int other) {
            int differing = (row >> SEAT_BITS * one ^ row >> SEAT_BITS * other) & OUT_BITS;
            return row ^ differing << SEAT_BITS * one ^ differing << SEAT_BITS * other;
        }

        private int farOf(int row) {
            int q = rankOf(row);
            return isSeating(q) ? far[q] : NONE;
        }

        /** The number of the seating that has this row. */
        private int rankOf(int row) {
            int rank = 0;
            for (int i = 0; i < inside; i++) {
                int lower = 0;
                for (int j = i + 1; j < inside; j++) {
                    lower += oneIf(seatOfRow(row, insiders[j]) < seatOfRow(row, insiders[i]));
                }
                rank = rank * (inside - i) + lower;
            }
            return rank;
        }

        private static int rowOf(Room room) {
            int row = 0;
            for (int p = 0; p < MOST_SITTERS; p++) {
                row |= (room.isInside(p) ? room.seats[p] : OUT_BITS) << SEAT_BITS * p;
            }
            return row;
        }

        private static int seatOfRow(int row, int sitter) {
            int place = row >> SEAT_BITS * sitter & OUT_BITS;
            return place == OUT_BITS ? NONE : place;
        }

        private int nationIn(int q, int n, int sitter) {
            int i = q * MINUTES + n;
            return i >= 0 && i < nations.length ? nations[i] >> NATION_BITS * sitter & 3 : NONE;
        }

        private boolean isSeating(int q) {
            return q >= 0 && q < many;
        }
    }
}
