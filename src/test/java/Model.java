import java.util.ArrayDeque;
import java.util.ArrayList;
import java.util.Arrays;
import java.util.Deque;
import java.util.HashMap;
import java.util.List;
import java.util.Map;
import java.util.function.Function;

/**
 * A second SteamNations, written from the document in another way and without care for speed:
 * ModelTest compares the two. Exceptions and the library are used freely here.
 */
final class Model {
    static final class Refused extends RuntimeException {
        private static final long serialVersionUID = 1;
        final int by;

        Refused(int by) {
            this.by = by;
        }
    }

    static final class Fault extends RuntimeException {
        private static final long serialVersionUID = 1;
        final int place;

        Fault(int place) {
            this.place = place;
        }
    }

    static final class Broken extends RuntimeException {
        private static final long serialVersionUID = 1;
    }

    static final class Sitter {
        int[] parts;
        int wish;
        int seat = -1;

        Sitter(int a, int b, int c, int wish) {
            parts = new int[] {a, b, c};
            this.wish = wish;
        }

        Sitter copy() {
            Sitter s = new Sitter(parts[0], parts[1], parts[2], wish);
            s.seat = seat;
            return s;
        }

        int is() {
            int max = Arrays.stream(parts).max().getAsInt();
            return parts[0] == max ? 0 : parts[1] == max ? 1 : 2;
        }

        int much() {
            return parts[is()];
        }
    }

    interface Value {
        long of(Map<String, Integer> words);
    }

    interface So {
        boolean of(Map<String, Integer> words);
    }

    static final class Clause {
        String kind;
        Value first;
        Value second;
        int times = 1;
        So test = words -> true;

        /** Whether the "if" is so; BROKEN is not. */
        boolean runs(Map<String, Integer> words) {
            try {
                return test.of(words);
            } catch (Broken b) {
                return false;
            }
        }
    }

    static final class State {
        List<Sitter> sitters = new ArrayList<>();
        int[] terms = {0, 1, 0};
        List<List<Clause>> laws = new ArrayList<>();
        int force = -1;
        List<int[]> seen = new ArrayList<>();

        State copy() {
            State s = new State();
            for (Sitter one : sitters) {
                s.sitters.add(one.copy());
            }
            s.terms = terms.clone();
            s.laws = new ArrayList<>(laws);
            s.force = force;
            s.seen = new ArrayList<>(seen);
            return s;
        }

        Sitter at(int seat) {
            for (Sitter one : sitters) {
                if (one.seat == seat && seat >= 0) {
                    return one;
                }
            }
            return null;
        }

        int pleased() {
            return (int) sitters.stream().filter(one -> one.is() == one.wish).count();
        }

        int inside() {
            return (int) sitters.stream().filter(one -> one.seat >= 0).count();
        }

        List<Clause> lawInForce() {
            return force < 0 ? List.of() : laws.get(force);
        }
    }

    static final class Past {
        final int kind;
        final State state;

        Past(int kind, State state) {
            this.kind = kind;
            this.state = state;
        }
    }

    private State state = new State();
    private final State[] images = new State[2];
    private byte[] tape = new byte[0];
    private int fault = -1;
    private int puffs = 0;
    private int stopped = -1;
    private Deque<Past> past = new ArrayDeque<>();
    private State drawn = null;
    private final Map<Integer, Integer> refusals = new HashMap<>();
    private int status = 0;

    // ---- what a law tells

    private static boolean beside(int a, int b) {
        if (a < 0 || b < 0) {
            return false;
        }
        return a / 3 == b / 3 && Math.abs(a - b) == 1 || Math.abs(a - b) == 3;
    }

    private static Map<String, Integer> lawWords(State s, Sitter one, Sitter other) {
        Map<String, Integer> words = new HashMap<>();
        words.put("sitter", s.sitters.indexOf(one));
        words.put("other", other == null ? -1 : other.is());
        words.put("tier", one.seat / 3);
        words.put("nation", one.is());
        words.put("much", one.much());
        words.put("wish", one.wish);
        words.put("minute", s.terms[0]);
        words.put("mood", s.terms[2]);
        return words;
    }

    private static int passes(State s, List<Clause> law, Sitter one, Sitter other) {
        long told = 1;
        Map<String, Integer> words = lawWords(s, one, other);
        for (Clause c : law) {
            if (c.kind.equals("passes")) {
                try {
                    if (c.test.of(words)) {
                        told = c.first.of(words);
                    }
                } catch (Broken b) {
                    continue;
                }
            }
        }
        return told < 0 ? 0 : told > 9 ? 9 : (int) told;
    }

    private static boolean holds(State s, List<Clause> law, Sitter one, String kind) {
        return law.stream().anyMatch(c -> c.kind.equals(kind) && c.runs(lawWords(s, one, null)));
    }

    private static void minute(State s, List<Clause> law) {
        State was = s.copy();
        for (int p = 0; p < was.sitters.size(); p++) {
            Sitter one = was.sitters.get(p);
            if (one.seat < 0 || holds(was, law, one, "keeps")) {
                continue;
            }
            int left = one.much();
            for (int seat = 0; seat < 9; seat++) {
                Sitter other = was.at(seat);
                if (other != null && beside(one.seat, seat)) {
                    int told = passes(was, law, one, other);
                    while (told > 0 && left > 0) {
                        s.sitters.get(p).parts[one.is()]--;
                        s.at(seat).parts[one.is()]++;
                        told--;
                        left--;
                    }
                }
            }
        }
        List<Sitter> leaving = new ArrayList<>();
        for (Sitter one : s.sitters) {
            if (one.seat >= 0 && holds(s, law, one, "leaves")) {
                leaving.add(one);
            }
        }
        leaving.forEach(one -> one.seat = -1);
        s.terms[0]++;
    }

    private static State after(State s, List<Clause> law, int n) {
        State paper = s.copy();
        for (int i = 0; i < n; i++) {
            minute(paper, law);
        }
        return paper;
    }

    private State after(int n) {
        return after(state, state.lawInForce(), n);
    }

    // ---- calls that can be refused

    private int told(java.util.function.IntSupplier call) {
        try {
            int answer = call.getAsInt();
            status = 0;
            return answer;
        } catch (Refused r) {
            status = r.by;
            refusals.merge(r.by, 1, Integer::sum);
            return r.by;
        }
    }

    private static void refuseIf(boolean so, int by) {
        if (so) {
            throw new Refused(by);
        }
    }

    private Sitter one(int p) {
        refuseIf(p < 0 || p >= state.sitters.size(), -2);
        return state.sitters.get(p);
    }

    private boolean has(int p) {
        return p >= 0 && p < state.sitters.size();
    }

    private void keep(int kind) {
        past.addLast(new Past(kind, state.copy()));
        if (past.size() > 16) {
            past.removeFirst();
        }
    }

    int sitter(int red, int blue, int green, int wish) {
        return told(() -> {
            for (int parts : new int[] {red, blue, green}) {
                refuseIf(parts < 0 || parts > 99, -1);
            }
            refuseIf(wish < 0 || wish > 2, -1);
            refuseIf(state.sitters.size() == 6, -5);
            state.sitters.add(new Sitter(red, blue, green, wish));
            past.clear();
            return state.sitters.size() - 1;
        });
    }

    int of(int p, int what) {
        if (!has(p) || what < 0 || what > 7) {
            return -1;
        }
        Sitter s = state.sitters.get(p);
        if (what <= 2) {
            return s.parts[what];
        }
        if (what == 3) {
            return s.wish;
        }
        if (what == 4) {
            return s.seat;
        }
        if (what == 5) {
            return s.is();
        }
        if (s.seat < 0) {
            return -1;
        }
        return holds(state, state.lawInForce(), s, what == 6 ? "keeps" : "leaves") ? 1 : 0;
    }

    int at(int seat) {
        return state.sitters.indexOf(state.at(seat));
    }

    int asks(int p, int q) {
        if (!has(p) || !has(q)) {
            return -1;
        }
        Sitter one = state.sitters.get(p);
        Sitter other = state.sitters.get(q);
        return beside(one.seat, other.seat) ? passes(state, state.lawInForce(), one, other) : -1;
    }

    int terms(int what, int value) {
        return told(() -> {
            refuseIf(what < 0 || what > 2, -1);
            refuseIf(value < 0 || value > new int[] {999, 10, 9}[what], -1);
            int was = state.terms[what];
            state.terms[what] = value;
            past.clear();
            return was;
        });
    }

    int feed(int... numbers) {
        if (tape.length + 20 > 400) {
            return -1;
        }
        int n = tape.length;
        tape = Arrays.copyOf(tape, n + 20);
        for (int i = 0; i < 20; i++) {
            tape[n + i] = (byte) (numbers[i / 4] >>> (3 - i % 4) * 8);
        }
        return tape.length;
    }

    int end(int n) {
        if (n < 0 || n > tape.length) {
            return -1;
        }
        tape = Arrays.copyOf(tape, n);
        return n;
    }

    int row() {
        return told(() -> {
            refuseIf(tape.length == 0, -6);
            int came = 0;
            puffs = 0;
            for (int i = 0; i < tape.length; i += 4) {
                boolean well = i + 4 <= tape.length && state.sitters.size() < 6;
                for (int k = 0; well && k < 4; k++) {
                    well = (tape[i + k] & 255) <= (k == 3 ? 2 : 99);
                }
                if (well) {
                    state.sitters.add(new Sitter(tape[i], tape[i + 1], tape[i + 2], tape[i + 3]));
                    came++;
                } else {
                    puffs++;
                }
            }
            tape = new byte[0];
            past.clear();
            return came;
        });
    }

    int puffs() {
        return puffs;
    }

    private List<Clause> read(boolean orders) {
        byte[] bytes = tape;
        tape = new byte[0];
        fault = -1;
        try {
            return new Grammar(bytes, orders).text();
        } catch (Fault f) {
            fault = f.place;
            throw new Refused(-6);
        }
    }

    int law() {
        return told(() -> {
            if (state.laws.size() == 6) {
                tape = new byte[0];
                throw new Refused(-5);
            }
            state.laws.add(read(false));
            return state.laws.size() - 1;
        });
    }

    int orders() {
        stopped = -1;
        return told(() -> {
            List<Clause> clauses = read(true);
            State ahead = state.copy();
            Deque<Past> pastAhead = new ArrayDeque<>(past);
            int done = 0;
            int latest = -1;
            for (int c = 0; c < clauses.size(); c++) {
                Clause clause = clauses.get(c);
                for (int i = 0; i < clause.times; i++) {
                    Map<String, Integer> words = ordersWords(done, latest);
                    if (!clause.runs(words)) {
                        continue;
                    }
                    try {
                        int answer = run(clause, words);
                        if (clause.kind.equals("out")) {
                            latest = answer;
                        }
                    } catch (Refused | Broken e) {
                        state = ahead;
                        past = pastAhead;
                        stopped = c;
                        throw new Refused(-3);
                    }
                    done++;
                }
            }
            return done;
        });
    }

    private Map<String, Integer> ordersWords(int done, int latest) {
        Map<String, Integer> words = new HashMap<>();
        words.put("minute", state.terms[0]);
        words.put("done", done);
        words.put("latest", latest);
        words.put("inside", state.inside());
        words.put("pleased", state.pleased());
        for (int p = 0; p < 6; p++) {
            words.put("is" + p, has(p) ? state.sitters.get(p).is() : -1);
            words.put("much" + p, has(p) ? state.sitters.get(p).much() : -1);
        }
        return words;
    }

    private int run(Clause clause, Map<String, Integer> words) {
        int first = clause.first == null ? 0 : (int) clause.first.of(words);
        int second = clause.second == null ? 0 : (int) clause.second.of(words);
        switch (clause.kind) {
            case "seat":
                return doSeat(first, second);
            case "out":
                return doOut(first);
            case "swap":
                return doSwap(first, second);
            default:
                return doPass();
        }
    }

    int fault() {
        return fault;
    }

    int stopped() {
        return stopped;
    }

    int force(int law) {
        return told(() -> {
            refuseIf(law < -1 || law >= state.laws.size(), -2);
            int was = state.force;
            state.force = law;
            return was;
        });
    }

    private int doSeat(int p, int seat) {
        refuseIf(seat < 0 || seat > 8, -1);
        Sitter s = one(p);
        refuseIf(state.at(seat) != null, -3);
        keep(0);
        s.seat = seat;
        return state.inside();
    }

    private int doOut(int p) {
        Sitter s = one(p);
        refuseIf(s.seat < 0, -3);
        keep(1);
        int seat = s.seat;
        s.seat = -1;
        return seat;
    }

    private int doSwap(int p, int q) {
        refuseIf(p == q, -1);
        Sitter s = one(p);
        Sitter t = one(q);
        refuseIf(s.seat < 0 || t.seat < 0, -3);
        keep(2);
        int seat = s.seat;
        s.seat = t.seat;
        t.seat = seat;
        return s.seat;
    }

    private int doPass() {
        refuseIf(state.terms[0] >= 999, -3);
        keep(3);
        minute(state, state.lawInForce());
        return state.terms[0];
    }

    int seat(int p, int seat) {
        return told(() -> doSeat(p, seat));
    }

    int out(int p) {
        return told(() -> doOut(p));
    }

    int swap(int p, int q) {
        return told(() -> doSwap(p, q));
    }

    int pass() {
        return told(this::doPass);
    }

    int undo() {
        return told(() -> {
            refuseIf(past.isEmpty(), -3);
            Past latest = past.removeLast();
            // Laws, what is in force and what was seen are no part of what is undone.
            state.sitters = latest.state.sitters;
            state.terms = latest.state.terms;
            return latest.kind;
        });
    }

    // ---- on paper

    int later(int p, int n, int what) {
        if (!has(p) || n < 0 || n > 60 || what < 0 || what > 3) {
            return -1;
        }
        Sitter s = after(n).sitters.get(p);
        return what == 3 ? s.is() : s.parts[what];
    }

    int when(int p, int nation) {
        for (int n = 0; has(p) && n <= 60; n++) {
            if (after(n).sitters.get(p).is() == nation) {
                return n;
            }
        }
        return -1;
    }

    int one() {
        for (int n = 0; n <= 60; n++) {
            if (after(n).sitters.stream().filter(s -> s.seat >= 0).mapToInt(Sitter::is).distinct().count() <= 1) {
                return n;
            }
        }
        return -1;
    }

    /** All seatings as rows of seats (-1: OUT), in order. */
    private List<int[]> seatings() {
        List<int[]> all = new ArrayList<>();
        int[] row = new int[state.sitters.size()];
        Arrays.fill(row, -1);
        fill(row, 0, all);
        return all;
    }

    private void fill(int[] row, int p, List<int[]> all) {
        if (p == row.length) {
            all.add(row.clone());
            return;
        }
        if (state.sitters.get(p).seat < 0) {
            fill(row, p + 1, all);
            return;
        }
        for (int seat = 0; seat < 9; seat++) {
            int at = seat;
            if (state.at(seat) != null && Arrays.stream(row).noneMatch(r -> r == at)) {
                row[p] = seat;
                fill(row, p + 1, all);
                row[p] = -1;
            }
        }
    }

    private State from(int[] row) {
        State s = state.copy();
        for (int p = 0; p < row.length; p++) {
            s.sitters.get(p).seat = row[p];
        }
        return s;
    }

    private int[] rowNow() {
        return state.sitters.stream().mapToInt(s -> s.seat).toArray();
    }

    int pleased(int n, int what) {
        if (n < 0 || n > 9 || what < 0 || what > state.sitters.size()) {
            return -1;
        }
        int most = -1;
        int[] best = null;
        for (int[] row : seatings()) {
            int many = after(from(row), state.lawInForce(), n).pleased();
            if (many > most) {
                most = many;
                best = row;
            }
        }
        return what == 0 ? most : best[what - 1];
    }

    /** A search from the seats of now, rows of exchanges in their order: the first that gets there is the first row. */
    int exchanges(int n, int what) {
        if (n < 0 || n > 9 || what < 0 || what > 1) {
            return -1;
        }
        int most = pleased(n, 0);
        Map<String, Integer> first = new HashMap<>();
        Map<String, Integer> far = new HashMap<>();
        Deque<int[]> waiting = new ArrayDeque<>();
        int[] now = rowNow();
        waiting.add(now);
        first.put(Arrays.toString(now), -1);
        far.put(Arrays.toString(now), 0);
        while (!waiting.isEmpty()) {
            int[] row = waiting.remove();
            String key = Arrays.toString(row);
            if (after(from(row), state.lawInForce(), n).pleased() == most) {
                return what == 0 ? far.get(key) : first.get(key);
            }
            for (int p = 0; p < row.length; p++) {
                for (int q = p + 1; q < row.length; q++) {
                    if (!beside(row[p], row[q])) {
                        continue;
                    }
                    int[] next = row.clone();
                    next[p] = row[q];
                    next[q] = row[p];
                    if (far.putIfAbsent(Arrays.toString(next), far.get(key) + 1) == null) {
                        first.put(Arrays.toString(next), far.get(key) == 0 ? 10 * p + q : first.get(key));
                        waiting.add(next);
                    }
                }
            }
        }
        return -1;
    }

    int seen(int p, int n, int nation) {
        return told(() -> {
            refuseIf(n < 0 || n > 9 || nation < 0 || nation > 2, -1);
            one(p);
            refuseIf(state.seen.size() == 6, -5);
            state.seen.add(new int[] {p, n, nation});
            return state.seen.size();
        });
    }

    int forget() {
        int were = state.seen.size();
        state.seen.clear();
        return were;
    }

    private List<int[]> sat() {
        List<int[]> fitting = new ArrayList<>();
        for (int[] row : seatings()) {
            boolean fits = true;
            for (int[] sight : state.seen) {
                State then = after(from(row), state.lawInForce(), sight[1]);
                fits = fits && then.sitters.get(sight[0]).is() == sight[2];
            }
            if (fits) {
                fitting.add(row);
            }
        }
        return fitting;
    }

    int sat(int i, int p) {
        List<int[]> fitting = sat();
        if (i == -1) {
            return fitting.size();
        }
        return i >= 0 && i < fitting.size() && has(p) ? fitting.get(i)[p] : -1;
    }

    int ask(int n, int what) {
        List<int[]> fitting = sat();
        if (n < 0 || n > 9 || what < 0 || what > 1 || fitting.isEmpty() || state.sitters.isEmpty()) {
            return -1;
        }
        int[][] many = new int[state.sitters.size()][3];
        for (int[] row : fitting) {
            State then = after(from(row), state.lawInForce(), n);
            for (int p = 0; p < many.length; p++) {
                many[p][then.sitters.get(p).is()]++;
            }
        }
        Function<int[], Integer> most = counts -> Arrays.stream(counts).max().getAsInt();
        int best = 0;
        for (int p = 1; p < many.length; p++) {
            if (most.apply(many[p]) < most.apply(many[best])) {
                best = p;
            }
        }
        return what == 0 ? best : most.apply(many[best]);
    }

    int treaty(int k, int what) {
        if (k < 1 || k > 99 || what < 0 || what > 1) {
            return -1;
        }
        int most = -1;
        int who = 0;
        for (int bits = (1 << state.sitters.size()) - 1; bits >= 0; bits--) {
            if (Integer.bitCount(bits) >= most && agree(bits, k)) {
                most = Integer.bitCount(bits);
                who = bits;
            }
        }
        return what == 0 ? most : who;
    }

    private boolean agree(int bits, int k) {
        for (int p = 0; p < 6; p++) {
            for (int q = 0; q < p; q++) {
                if ((bits & 1 << p) != 0 && (bits & 1 << q) != 0) {
                    int common = 0;
                    for (int nation = 0; nation < 3; nation++) {
                        common += Math.min(state.sitters.get(p).parts[nation], state.sitters.get(q).parts[nation]);
                    }
                    if (common < k) {
                        return false;
                    }
                }
            }
        }
        return true;
    }

    int drop(int p, int n, int q) {
        if (!has(p) || !has(q) || n < 0 || n > 60) {
            return -1;
        }
        int[] seats = rowNow();
        if (seats[p] < 0 || seats[q] < 0) {
            return -1;
        }
        int[] has = new int[seats.length];
        has[p] = 1000000;
        for (int m = 0; m < n; m++) {
            int[] was = has.clone();
            for (int a = 0; a < has.length; a++) {
                for (int b = 0; b < has.length; b++) {
                    if (beside(seats[a], seats[b])) {
                        has[a] -= was[a] / 10;
                        has[b] += was[a] / 10;
                    }
                }
            }
        }
        return has[q];
    }

    long few(int k, int n) {
        if (k < 1 || k > 20 || n < 0 || n > 99) {
            return -1;
        }
        long[] chance = new long[n + 2];
        chance[0] = 1000000000000L;
        for (int i = 0; i < n; i++) {
            long[] next = new long[n + 2];
            for (int j = 0; j <= i; j++) {
                next[j] += chance[j] * (10 - state.terms[1]) / 10;
                next[j + 1] += chance[j] * state.terms[1] / 10;
            }
            chance = next;
        }
        return Arrays.stream(chance).limit(k).sum();
    }

    int compare(int law, int n) {
        if (law < -1 || law >= state.laws.size() || n < 0 || n > 60) {
            return -1;
        }
        return after(state, law < 0 ? List.of() : state.laws.get(law), n).pleased();
    }

    int mornings(int seed, int n) {
        return told(() -> {
            refuseIf(seed < 0 || seed > 1000000 || n < 1 || n > 60, -1);
            refuseIf(state.sitters.isEmpty(), -3);
            State paper = state.copy();
            long s = seed;
            for (int i = 0; i < n; i++) {
                if (paper.terms[0] == 999) {
                    break;
                }
                s = (s * 1103 + 12345) % 1000003;
                Sitter one = paper.sitters.get((int) (s % paper.sitters.size()));
                s = (s * 1103 + 12345) % 1000003;
                int seat = (int) (s % 9);
                s = (s * 1103 + 12345) % 1000003;
                if (s % 3 == 0 && paper.at(seat) == null) {
                    one.seat = seat;
                } else if (s % 3 == 1) {
                    one.seat = -1;
                }
                minute(paper, paper.lawInForce());
            }
            drawn = paper;
            return paper.pleased();
        });
    }

    int drawn(int p, int what) {
        if (drawn == null || p < 0 || p >= drawn.sitters.size() || what < 0 || what > 3) {
            return -1;
        }
        Sitter s = drawn.sitters.get(p);
        return what == 3 ? s.seat : s.parts[what];
    }

    int image(int k) {
        return told(() -> {
            refuseIf(k < 0 || k > 1, -1);
            images[k] = state.copy();
            return 0;
        });
    }

    int back(int k) {
        return told(() -> {
            refuseIf(k < 0 || k > 1, -1);
            refuseIf(images[k] == null, -2);
            state = images[k].copy();
            past.clear();
            return 0;
        });
    }

    int count(int what) {
        int[] counts = {
            state.sitters.size(), state.inside(), state.seen.size(), state.laws.size(), past.size(), tape.length,
            refusals.getOrDefault(-1, 0), refusals.getOrDefault(-2, 0), refusals.getOrDefault(-3, 0),
            refusals.getOrDefault(-5, 0), refusals.getOrDefault(-6, 0), state.force,
            state.terms[0], state.terms[1], state.terms[2], all(0), all(1), all(2)
        };
        return what >= 0 && what < counts.length ? counts[what] : -1;
    }

    private int all(int nation) {
        return state.sitters.stream().mapToInt(s -> s.parts[nation]).sum();
    }

    int status() {
        return status;
    }

    // ---- the two languages

    static final class Grammar {
        private static final List<String> LAW_WORDS =
                List.of("sitter", "other", "tier", "nation", "much", "wish", "minute", "mood");
        private static final List<String> ORDERS_WORDS =
                List.of("minute", "done", "latest", "inside", "pleased", "is", "much");

        private final List<String> tokens = new ArrayList<>();
        private final List<Integer> places = new ArrayList<>();
        private final boolean orders;
        private int at = 0;
        private int parts = 0;
        private int depth = 0;

        Grammar(byte[] bytes, boolean orders) {
            this.orders = orders;
            StringBuilder text = new StringBuilder();
            for (byte b : bytes) {
                text.append((char) (b & 255));
            }
            java.util.regex.Matcher m = java.util.regex.Pattern
                    .compile("[a-z]+|[0-9]+|[^ ]", java.util.regex.Pattern.DOTALL).matcher(text);
            while (m.find()) {
                tokens.add(m.group());
                places.add(m.start());
            }
            tokens.add("");
            places.add(bytes.length);
        }

        private String now() {
            return tokens.get(at);
        }

        private Fault fault() {
            return new Fault(places.get(at));
        }

        private boolean take(String token) {
            if (now().equals(token)) {
                at++;
                return true;
            }
            return false;
        }

        private void must(String token) {
            if (!take(token)) {
                throw fault();
            }
        }

        private int number(int least, int most) {
            if (!now().matches("[0-9]+")) {
                throw fault();
            }
            java.math.BigInteger value = new java.math.BigInteger(now());
            if (value.compareTo(java.math.BigInteger.valueOf(least)) < 0
                    || value.compareTo(java.math.BigInteger.valueOf(most)) > 0) {
                throw fault();
            }
            at++;
            return value.intValue();
        }

        List<Clause> text() {
            List<Clause> clauses = new ArrayList<>();
            do {
                if (clauses.size() == 12) {
                    throw fault();
                }
                clauses.add(clause());
            } while (take(";"));
            must("");
            return clauses;
        }

        private Clause clause() {
            Clause c = new Clause();
            c.kind = now();
            List<String> kinds = orders ? List.of("seat", "out", "swap", "pass") : List.of("passes", "keeps", "leaves");
            if (!kinds.contains(c.kind)) {
                throw fault();
            }
            at++;
            if (List.of("seat", "out", "swap", "passes").contains(c.kind)) {
                c.first = sum();
            }
            if (c.kind.equals("seat")) {
                must("at");
                c.second = sum();
            }
            if (c.kind.equals("swap")) {
                must("with");
                c.second = sum();
            }
            if (orders && take("times")) {
                c.times = number(1, 20);
            }
            if (take("if")) {
                c.test = test();
            }
            return c;
        }

        private So test() {
            So left = both();
            if (!take("or")) {
                return left;
            }
            So right = test();
            return w -> left.of(w) || right.of(w);
        }

        private So both() {
            So left = plain();
            if (!take("and")) {
                return left;
            }
            So right = both();
            return w -> left.of(w) && right.of(w);
        }

        private So plain() {
            if (take("not")) {
                So inner = plain();
                return w -> !inner.of(w);
            }
            if (now().equals("(")) {
                open();
                So inner = test();
                must(")");
                depth--;
                return inner;
            }
            Value left = sum();
            String sign = now();
            if (!List.of("<", ">", "=").contains(sign)) {
                throw fault();
            }
            at++;
            Value right = sum();
            return w -> {
                int c = Long.compare(left.of(w), right.of(w));
                return sign.equals("<") ? c < 0 : sign.equals(">") ? c > 0 : c == 0;
            };
        }

        private void open() {
            if (depth == 8) {
                throw fault();
            }
            depth++;
            at++;
        }

        private Value sum() {
            Value value = term();
            while (now().equals("+") || now().equals("-")) {
                value = joined(value, tokens.get(at++), term());
            }
            return value;
        }

        private Value term() {
            Value value = part();
            while (now().equals("*") || now().equals("/") || now().equals("%")) {
                value = joined(value, tokens.get(at++), part());
            }
            return value;
        }

        private static Value joined(Value left, String sign, Value right) {
            return w -> {
                long a = left.of(w);
                long b = right.of(w);
                if (b == 0 && "/%".contains(sign)) {
                    throw new Broken();
                }
                long c = sign.equals("+") ? a + b : sign.equals("-") ? a - b : sign.equals("*") ? a * b
                        : sign.equals("/") ? a / b : a % b;
                if (Math.abs(c) > 1000000000L) {
                    throw new Broken();
                }
                return c;
            };
        }

        private Value part() {
            if (now().equals("[")) {
                open();
                Value inner = sum();
                must("]");
                depth--;
                return inner;
            }
            if (parts == 50) {
                throw fault();
            }
            parts++;
            String token = now();
            if (token.matches("[0-9]+")) {
                int value = number(0, 1000);
                return w -> value;
            }
            if (!(orders ? ORDERS_WORDS : LAW_WORDS).contains(token)) {
                throw fault();
            }
            at++;
            String word = orders && (token.equals("is") || token.equals("much")) ? token + number(0, 5) : token;
            return w -> w.get(word);
        }
    }
}
