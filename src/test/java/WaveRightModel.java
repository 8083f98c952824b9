import java.math.BigInteger;
import java.nio.ByteBuffer;
import java.util.ArrayList;
import java.util.Arrays;
import java.util.HashMap;
import java.util.List;
import java.util.Map;
import java.util.NoSuchElementException;
import java.util.TreeSet;

/**
 * The document told a second time, plainly and slowly, with the whole Java library: trees instead of
 * steps, sets of places instead of bounds, all ways gone through instead of tables. WaveRightModelTest
 * compares the two by drawn calls.
 */
final class WaveRightModel {
    private static final BigInteger LEAST = BigInteger.valueOf(Integer.MIN_VALUE);
    private static final BigInteger MOST = BigInteger.valueOf(Integer.MAX_VALUE);
    private static final List<String> KEPT = Arrays.asList("surfer", "at", "swims", "heat", "again", "wave", "left",
            "right", "both", "high", "long");
    private static final List<String> PARTS = Arrays.asList("high", "long", "ride", "far", "turns", "minute", "rides",
            "best");

    static final class Fault extends RuntimeException {
        private static final long serialVersionUID = 1L;
        final int at;

        Fault(int at) {
            this.at = at;
        }
    }

    static final class Unjudged extends RuntimeException {
        private static final long serialVersionUID = 1L;
        final int by;

        Unjudged(int by) {
            this.by = by;
        }
    }

    static final class Token {
        final String text;
        final int at;

        Token(String text, int at) {
            this.text = text;
            this.at = at;
        }

        boolean isWord() {
            return !text.isEmpty() && text.charAt(0) >= 'a' && text.charAt(0) <= 'z';
        }

        boolean isNumber() {
            return !text.isEmpty() && text.charAt(0) >= '0' && text.charAt(0) <= '9';
        }
    }

    static final class Tokens {
        final List<Token> list = new ArrayList<>();
        int next;

        Tokens(byte[] bytes, int length) {
            int at = 0;
            while (at < length) {
                int sign = bytes[at] & 255;
                int end = at + 1;
                if (sign != 9 && sign != 10 && sign != 32) {
                    for (char[] range : new char[][] {{'a', 'z'}, {'0', '9'}}) {
                        if (sign >= range[0] && sign <= range[1]) {
                            while (end < length && (bytes[end] & 255) >= range[0] && (bytes[end] & 255) <= range[1]) {
                                end++;
                            }
                        }
                    }
                    StringBuilder text = new StringBuilder();
                    for (int k = at; k < end; k++) {
                        text.append((char) (bytes[k] & 255));
                    }
                    list.add(new Token(text.toString(), at));
                }
                at = end;
            }
            list.add(new Token("", length));
        }

        Token peek() {
            return list.get(next);
        }

        boolean is(String text) {
            return !text.isEmpty() && peek().text.equals(text);
        }

        boolean ended() {
            return peek().text.isEmpty();
        }

        void must(String text) {
            if (!is(text)) {
                throw new Fault(peek().at);
            }
            next++;
        }

        boolean may(String text) {
            if (is(text)) {
                next++;
                return true;
            }
            return false;
        }

        int number(int least, int most, int digits) {
            Token token = peek();
            if (!token.isNumber() || token.text.length() > digits) {
                throw new Fault(token.at);
            }
            int value = Integer.parseInt(token.text);
            if (value < least || value > most) {
                throw new Fault(token.at);
            }
            next++;
            return value;
        }
    }

    // ---- the sea ----

    static final class Sea {
        final List<String> names = new ArrayList<>();
        final List<int[]> surfers = new ArrayList<>();
        final List<int[]> waves = new ArrayList<>();
        Integer heat;
        Integer again;

        int heat() {
            return heat == null ? 30 : heat;
        }

        int again() {
            return again == null ? 0 : again;
        }
    }

    static Sea readSea(byte[] bytes, int length) {
        Tokens in = new Tokens(bytes, length);
        Sea sea = new Sea();
        while (!in.ended()) {
            Token first = in.peek();
            if (in.may("surfer")) {
                if (sea.names.size() == 5) {
                    throw new Fault(first.at);
                }
                Token name = in.peek();
                if (!name.isWord() || name.text.length() > 6 || KEPT.contains(name.text) || sea.names.contains(name.text)) {
                    throw new Fault(name.at);
                }
                in.next++;
                sea.names.add(name.text);
                in.must("at");
                int place = in.number(0, 40, 2);
                in.must("swims");
                sea.surfers.add(new int[] {place, in.number(1, 9, 2)});
            } else if (in.may("heat")) {
                if (sea.heat != null) {
                    throw new Fault(first.at);
                }
                sea.heat = in.number(1, 60, 2);
            } else if (in.may("again")) {
                if (sea.again != null) {
                    throw new Fault(first.at);
                }
                sea.again = in.number(0, 30, 2);
            } else if (in.may("wave")) {
                if (sea.waves.size() == 20) {
                    throw new Fault(first.at);
                }
                int ahead = sea.waves.isEmpty() ? 1 : sea.waves.get(sea.waves.size() - 1)[0];
                int minute = in.number(ahead, 99, 2);
                in.must("at");
                int peak = in.number(0, 40, 2);
                int ways = in.is("left") ? 1 : in.is("right") ? 2 : in.is("both") ? 3 : 0;
                if (ways == 0) {
                    throw new Fault(in.peek().at);
                }
                in.next++;
                in.must("high");
                int high = in.number(1, 9, 2);
                in.must("long");
                sea.waves.add(new int[] {minute, peak, ways, high, in.number(1, 15, 2)});
            } else {
                throw new Fault(first.at);
            }
            in.must(";");
        }
        if (sea.names.size() < 2) {
            throw new Fault(length);
        }
        return sea;
    }

    // ---- the judge ----

    interface Tree {
        BigInteger value(Map<String, Integer> facts);
    }

    static final class Line {
        boolean plus;
        Tree sum;
        Tree condition;
    }

    static BigInteger step(BigInteger value) {
        if (value.compareTo(LEAST) < 0 || value.compareTo(MOST) > 0) {
            throw new Unjudged(1);
        }
        return value;
    }

    static BigInteger reckon(String sign, BigInteger a, BigInteger b) {
        switch (sign) {
            case "+": return step(a.add(b));
            case "-": return step(a.subtract(b));
            case "*": return step(a.multiply(b));
            default:
                if (b.signum() == 0) {
                    throw new Unjudged(2);
                }
                return step(a.divide(b));
        }
    }

    static final class JudgeText {
        final Tokens in;

        JudgeText(byte[] bytes, int length) {
            in = new Tokens(bytes, length);
        }

        List<Line> lines() {
            List<Line> lines = new ArrayList<>();
            do {
                Token first = in.peek();
                Line line = new Line();
                line.plus = in.is("plus");
                if (!in.may("plus")) {
                    in.must("less");
                }
                if (lines.size() == 10) {
                    throw new Fault(first.at);
                }
                line.sum = chain(0, "+", "-");
                if (in.may("if")) {
                    line.condition = truth(0, "or");
                }
                lines.add(line);
            } while (in.may(";"));
            if (!in.ended()) {
                throw new Fault(in.peek().at);
            }
            return lines;
        }

        Tree chain(int depth, String one, String other) {
            boolean sums = one.equals("+");
            Tree tree = sums ? chain(depth, "*", "/") : part(depth);
            while (in.is(one) || in.is(other)) {
                String sign = in.peek().text;
                in.next++;
                Tree left = tree;
                Tree right = sums ? chain(depth, "*", "/") : part(depth);
                tree = f -> {
                    BigInteger a = left.value(f);
                    return reckon(sign, a, right.value(f));
                };
            }
            return tree;
        }

        Tree part(int depth) {
            Token token = in.peek();
            if (PARTS.contains(token.text)) {
                in.next++;
                return f -> BigInteger.valueOf(f.get(token.text));
            }
            if (token.text.equals("[")) {
                if (depth == 6) {
                    throw new Fault(token.at);
                }
                in.next++;
                Tree inner = chain(depth + 1, "+", "-");
                in.must("]");
                return inner;
            }
            BigInteger number = BigInteger.valueOf(in.number(0, 9999, 4));
            return f -> number;
        }

        Tree truth(int depth, String word) {
            List<Tree> parts = new ArrayList<>();
            boolean or = word.equals("or");
            do {
                parts.add(or ? truth(depth, "and") : atom(depth));
            } while (in.may(word));
            return f -> {
                for (Tree part : parts) {
                    if (part.value(f).equals(BigInteger.ONE) == or) {
                        return or ? BigInteger.ONE : BigInteger.ZERO;
                    }
                }
                return or ? BigInteger.ZERO : BigInteger.ONE;
            };
        }

        Tree atom(int depth) {
            Token token = in.peek();
            if (in.may("not")) {
                Tree inner = atom(depth);
                return f -> BigInteger.ONE.subtract(inner.value(f));
            }
            if (token.text.equals("(")) {
                if (depth == 6) {
                    throw new Fault(token.at);
                }
                in.next++;
                Tree inner = truth(depth + 1, "or");
                in.must(")");
                return inner;
            }
            Tree left = chain(depth, "+", "-");
            String sign = in.peek().text;
            if (!sign.equals("<") && !sign.equals("=") && !sign.equals(">")) {
                throw new Fault(in.peek().at);
            }
            in.next++;
            Tree right = chain(depth, "+", "-");
            return f -> {
                int order = left.value(f).compareTo(right.value(f));
                boolean is = sign.equals("<") ? order < 0 : sign.equals(">") ? order > 0 : order == 0;
                return is ? BigInteger.ONE : BigInteger.ZERO;
            };
        }
    }

    // ---- the state ----

    static final class Ride {
        int score;
        int wave;
        int length;
        int turns;
        int way;
        boolean hindered;
        int unjudged;
        int surfer;
    }

    final byte[] tape = new byte[400];
    int tapeLength;
    int fault = -1;
    Sea sea;
    List<Line> judge;

    int[] place;
    int[] goal;
    boolean[] out;
    Integer[] back;
    int[] hinderings;
    Ride[] riding;
    List<Ride> rides = new ArrayList<>();
    List<Integer> row;
    int minute;
    int start;
    int restarts;
    int next;
    int there = -1;
    boolean over = true;

    int feed(int a, int b, int c, int d, int e) {
        if (tapeLength + 20 > 400) {
            return -1;
        }
        for (int one : new int[] {a, b, c, d, e}) {
            ByteBuffer.wrap(tape, tapeLength, 4).putInt(one);
            tapeLength += 4;
        }
        return tapeLength;
    }

    boolean end(int n) {
        if (n < 0 || n > tapeLength) {
            return false;
        }
        tapeLength = n;
        return true;
    }

    int sea() {
        int length = tapeLength;
        tapeLength = 0;
        try {
            Sea told = readSea(tape, length);
            fault = -1;
            sea = told;
            begin();
            return sea.waves.size();
        } catch (Fault e) {
            fault = e.at;
        }
        throw new IllegalArgumentException();
    }

    int judge() {
        int length = tapeLength;
        tapeLength = 0;
        try {
            judge = new JudgeText(tape, length).lines();
            fault = -1;
            return judge.size();
        } catch (Fault e) {
            fault = e.at;
        }
        throw new IllegalArgumentException();
    }

    int fault() {
        return fault;
    }

    void begin() {
        int n = sea.names.size();
        place = new int[n];
        goal = new int[n];
        out = new boolean[n];
        back = new Integer[n];
        hinderings = new int[n];
        riding = new Ride[n];
        for (int s = 0; s < n; s++) {
            place[s] = sea.surfers.get(s)[0];
            goal[s] = place[s];
            out[s] = true;
        }
        rides = new ArrayList<>();
        row = null;
        minute = 0;
        start = 0;
        restarts = 0;
        next = 0;
        there = -1;
        over = false;
    }

    int anew() {
        if (sea == null) {
            throw new IllegalStateException();
        }
        begin();
        return sea.names.size();
    }

    int surfers() {
        return sea == null ? 0 : sea.names.size();
    }

    int waves() {
        return sea == null ? 0 : sea.waves.size();
    }

    void known(int s) {
        if (s < 0 || s >= surfers()) {
            throw new IndexOutOfBoundsException();
        }
    }

    void knownWave(int w) {
        if (w < 0 || w >= waves()) {
            throw new IndexOutOfBoundsException();
        }
    }

    static void what(int what, int most) {
        if (what < 0 || what > most) {
            throw new NoSuchElementException();
        }
    }

    static void argument(boolean right) {
        if (!right) {
            throw new IllegalArgumentException();
        }
    }

    static void state(boolean right) {
        if (!right) {
            throw new IllegalStateException();
        }
    }

    int swimsOf(int s) {
        return sea.surfers.get(s)[1];
    }

    static int minutes(int places, int swims) {
        int minutes = 0;
        while (minutes * swims < places) {
            minutes++;
        }
        return minutes;
    }

    boolean wasTaken() {
        boolean now = false;
        for (Ride r : riding) {
            now |= r != null;
        }
        return now || !rides.isEmpty();
    }

    int comes() {
        if (over) {
            return -1;
        }
        goesBy();
        if (next == waves()) {
            over = true;
            return -1;
        }
        int then = sea.waves.get(next)[0];
        while (sea.again() > 0 && !wasTaken() && then > start + sea.again()) {
            start += sea.again();
            restarts++;
        }
        if (then > start + sea.heat()) {
            over = true;
            return -1;
        }
        for (; minute < then; minute++) {
            for (int s = 0; s < surfers(); s++) {
                for (int k = 0; out[s] && k < swimsOf(s) && place[s] != goal[s]; k++) {
                    place[s] += goal[s] > place[s] ? 1 : -1;
                }
            }
        }
        for (int when = 0; when <= minute; when++) {
            for (int s = 0; s < surfers(); s++) {
                if (back[s] != null && back[s] == when) {
                    back[s] = null;
                    out[s] = true;
                    goal[s] = place[s];
                    if (row != null) {
                        row.add(s);
                    }
                }
            }
        }
        there = next++;
        return there;
    }

    void goesBy() {
        if (there < 0) {
            return;
        }
        int[] hindered = new int[surfers()];
        boolean any = false;
        for (int s = 0; s < surfers(); s++) {
            hindered[s] = riding[s] == null ? 0 : hinderBits(s, riding[s].way, riding[s].length);
            any |= riding[s] != null;
        }
        List<Integer> rest = new ArrayList<>();
        for (int s = 0; s < surfers(); s++) {
            Ride ride = riding[s];
            if (ride == null) {
                if (hinderings[s] < 2) {
                    rest.add(s);
                }
                continue;
            }
            if (hindered[s] != 0) {
                ride.hindered = true;
                hinderings[s]++;
            } else {
                int score = would(s, there, place[s], ride.length, ride.turns);
                ride.score = Math.max(score, 0);
                ride.unjudged = Math.max(-score, 0);
            }
            rides.add(ride);
            if (hinderings[s] < 2) {
                back[s] = minute + 1 + minutes(ride.length, swimsOf(s));
            }
            if (row != null) {
                row.remove(Integer.valueOf(s));
            }
        }
        if (row == null && any) {
            row = rest;
        }
        Arrays.fill(riding, null);
        there = -1;
    }

    int wave(int w, int what) {
        knownWave(w);
        what(what, 4);
        return sea.waves.get(w)[what];
    }

    List<Integer> scores(int s) {
        List<Integer> scores = new ArrayList<>();
        for (Ride ride : rides) {
            if (ride.surfer == s) {
                scores.add(ride.score);
            }
        }
        return scores;
    }

    static int kth(List<Integer> scores, int k) {
        List<Integer> sorted = new ArrayList<>(scores);
        sorted.sort((a, b) -> b - a);
        return k < sorted.size() ? sorted.get(k) : 0;
    }

    int total(int s, List<Integer> scores) {
        return hinderings[s] > 0 ? kth(scores, 0) : kth(scores, 0) + kth(scores, 1);
    }

    int rank(int s, List<Integer> scores) {
        int rank = 0;
        for (int o = 0; o < surfers(); o++) {
            if (o != s) {
                int a = total(o, scores(o));
                int b = total(s, scores);
                int c = kth(scores(o), 0);
                int d = kth(scores, 0);
                rank += a > b || a == b && (c > d || c == d && o < s) ? 1 : 0;
            }
        }
        return rank;
    }

    int surfer(int s, int what) {
        known(s);
        what(what, 10);
        int[] all = {place[s], swimsOf(s), out[s] ? 1 : 0, goal[s], back[s] == null ? -1 : back[s], hinderings[s],
            scores(s).size(), total(s, scores(s)), rank(s, scores(s)), kth(scores(s), 0), kth(scores(s), 1)};
        return all[what];
    }

    int name(int s, int k) {
        known(s);
        String name = sea.names.get(s);
        return k >= 0 && k < name.length() ? name.charAt(k) : -1;
    }

    int goal(int s, int to) {
        known(s);
        argument(to >= 0 && to <= 40);
        state(out[s]);
        int was = goal[s];
        goal[s] = to;
        return was;
    }

    int row(int k) {
        return row == null || k < 0 || k >= row.size() ? -1 : row.get(k);
    }

    /** Places of a ride, whether it can be or not. */
    static TreeSet<Integer> path(int from, int way, int length) {
        TreeSet<Integer> path = new TreeSet<>();
        for (int k = 0; k <= length; k++) {
            path.add(way == 0 ? from - k : from + k);
        }
        return path;
    }

    boolean can(int w, int from, int way, int length) {
        int[] wave = sea.waves.get(w);
        if ((way == 0 ? wave[2] & 1 : wave[2] & 2) == 0) {
            return false;
        }
        for (int p : path(from, way, length)) {
            if (way == 0 ? p > wave[1] : p < wave[1]) {
                return false;
            }
            if (Math.abs(p - wave[1]) > wave[4]) {
                return false;
            }
        }
        return true;
    }

    int take(int s, int way, int length, int turns) {
        known(s);
        argument((way == 0 || way == 1) && length >= 1 && length <= 20 && turns >= 0 && turns <= 9);
        state(there >= 0 && out[s] && can(there, place[s], way, length));
        Ride ride = new Ride();
        ride.surfer = s;
        ride.wave = there;
        ride.way = way;
        ride.length = length;
        ride.turns = turns;
        riding[s] = ride;
        out[s] = false;
        return way == 0 ? place[s] - length : place[s] + length;
    }

    int rightOf(int a, int b) {
        if (row != null) {
            int i = row.indexOf(a);
            int j = row.indexOf(b);
            return i < 0 && j < 0 ? -1 : i < 0 ? b : j < 0 ? a : i < j ? a : b;
        }
        int peak = sea.waves.get(there)[1];
        int order = Math.abs(place[a] - peak) - Math.abs(place[b] - peak);
        return order < 0 || order == 0 && a < b ? a : b;
    }

    int right(int a, int b) {
        known(a);
        known(b);
        argument(a != b);
        state(there >= 0);
        return rightOf(a, b);
    }

    int hinderBits(int s, int way, int length) {
        int bits = 0;
        for (int o = 0; o < surfers(); o++) {
            if (o != s && riding[o] != null && riding[o].way == way && rightOf(s, o) == o) {
                TreeSet<Integer> common = path(place[s], way, length);
                common.retainAll(path(place[o], way, riding[o].length));
                bits += common.isEmpty() ? 0 : 1 << o;
            }
        }
        return bits;
    }

    int hinders(int s) {
        known(s);
        return riding[s] == null ? 0 : hinderBits(s, riding[s].way, riding[s].length);
    }

    int ride(int s, int k, int what) {
        known(s);
        List<Ride> own = new ArrayList<>();
        for (Ride ride : rides) {
            if (ride.surfer == s) {
                own.add(ride);
            }
        }
        what(k, own.size() - 1);
        what(what, 6);
        Ride r = own.get(k);
        return new int[] {r.score, r.wave, r.length, r.turns, r.way, r.hindered ? 1 : 0, r.unjudged}[what];
    }

    int would(int s, int w, int from, int length, int turns) {
        known(s);
        knownWave(w);
        argument(from >= 0 && from <= 40 && length >= 1 && length <= 20 && turns >= 0 && turns <= 9);
        int[] wave = sea.waves.get(w);
        if (judge == null) {
            return Math.min(100, wave[3] * length);
        }
        Map<String, Integer> facts = new HashMap<>();
        facts.put("high", wave[3]);
        facts.put("long", wave[4]);
        facts.put("ride", length);
        facts.put("far", Math.abs(from - wave[1]));
        facts.put("turns", turns);
        facts.put("minute", wave[0] - start);
        facts.put("rides", scores(s).size());
        facts.put("best", kth(scores(s), 0));
        try {
            BigInteger score = BigInteger.ZERO;
            for (Line line : judge) {
                if (line.condition == null || line.condition.value(facts).signum() == 1) {
                    score = reckon(line.plus ? "+" : "-", score, line.sum.value(facts));
                }
            }
            return score.max(BigInteger.ZERO).min(BigInteger.valueOf(100)).intValue();
        } catch (Unjudged e) {
            return -e.by;
        }
    }

    int ranked(int rank) {
        for (int s = 0; s < surfers(); s++) {
            if (rank(s, scores(s)) == rank) {
                return s;
            }
        }
        throw new NoSuchElementException();
    }

    int need(int s) {
        known(s);
        for (int score = 0; score <= 100; score++) {
            List<Integer> more = scores(s);
            more.add(score);
            if (rank(s, more) == 0) {
                return score;
            }
        }
        return -1;
    }

    /** RIDE, WAY, SCORE of the best ride. */
    int[] bestRide(int s, int w, boolean alone) {
        int[] best = {-1, -1, -1};
        for (int way = 1; way >= 0; way--) {
            for (int length = 20; length >= 1; length--) {
                if (can(w, place[s], way, length) && (alone || hinderBits(s, way, length) == 0)) {
                    int score = Math.max(0, would(s, w, place[s], length, 0));
                    boolean better = score > best[2] || score == best[2] && length <= best[0];
                    best = better ? new int[] {length, way, score} : best;
                }
            }
        }
        return best;
    }

    int best(int s, int what) {
        known(s);
        what(what, 2);
        state(there >= 0 && out[s]);
        return bestRide(s, there, false)[what];
    }

    int plan(int s, int what) {
        known(s);
        what(what, 2);
        state(hinderings[s] < 2 && riding[s] == null && !over);
        List<int[]> plans = new ArrayList<>();
        plans.add(new int[0]);
        for (int a = next; a < waves(); a++) {
            plans.add(new int[] {a});
        }
        for (int a = next; a < waves(); a++) {
            for (int b = a + 1; b < waves(); b++) {
                plans.add(new int[] {a, b});
            }
        }
        int[] chosen = null;
        int most = -1;
        for (int[] waves : plans) {
            int free = back[s] == null ? 0 : back[s];
            List<Integer> scores = scores(s);
            boolean can = true;
            for (int w : waves) {
                int then = sea.waves.get(w)[0];
                int[] ride = bestRide(s, w, true);
                can &= then <= start + sea.heat() && then >= free && ride[0] != -1;
                free = then + 1 + minutes(ride[0], swimsOf(s));
                scores.add(ride[2]);
            }
            if (can && total(s, scores) > most) {
                most = total(s, scores);
                chosen = waves;
            }
        }
        return what == 0 ? most : chosen.length >= what ? chosen[what - 1] : -1;
    }

    List<Integer> seenScores() {
        List<Integer> seen = new ArrayList<>();
        for (int k = rides.size() - 1; k >= 0 && seen.size() < 6; k--) {
            if (!rides.get(k).hindered && rides.get(k).unjudged == 0) {
                seen.add(rides.get(k).score);
            }
        }
        return seen;
    }

    int seen(int k) {
        List<Integer> seen = seenScores();
        return k < 0 || k >= seen.size() ? -1 : seen.get(k);
    }

    static long worthOf(List<Integer> seen, List<Integer> scores, int n, int r, Map<List<Integer>, Long> known) {
        List<Integer> key = Arrays.asList(n, r, kth(scores, 0), kth(scores, 1));
        Long before = known.get(key);
        if (before != null) {
            return before;
        }
        long worth = n == 0 ? kth(scores, 0) + kth(scores, 1) : 0;
        for (int score : n == 0 ? new ArrayList<Integer>() : seen) {
            long wait = worthOf(seen, scores, n - 1, r, known);
            List<Integer> more = new ArrayList<>(Arrays.asList(kth(scores, 0), kth(scores, 1), score));
            worth += r == 0 ? wait : Math.max(wait, worthOf(seen, more, n - 1, r - 1, known));
        }
        known.put(key, worth);
        return worth;
    }

    long worth(int s, int n, int r) {
        known(s);
        argument(n >= 0 && n <= 6 && r >= 0 && r <= 6);
        state(!seenScores().isEmpty());
        return worthOf(seenScores(), scores(s), n, r, new HashMap<>());
    }

    int least(int s, int n, int r) {
        known(s);
        argument(n >= 0 && n <= 6 && r >= 1 && r <= 6);
        state(!seenScores().isEmpty());
        Map<List<Integer>, Long> known = new HashMap<>();
        for (int score = 0; score <= 100; score++) {
            List<Integer> more = scores(s);
            more.add(score);
            if (worthOf(seenScores(), more, n, r - 1, known) >= worthOf(seenScores(), scores(s), n, r, known)) {
                return score;
            }
        }
        return -1;
    }

    int took(int w, int what) {
        knownWave(w);
        if (w >= next || w == there) {
            throw new NoSuchElementException();
        }
        what(what, 3);
        int[] all = {0, -1, -1, 0};
        for (Ride ride : rides) {
            if (ride.wave == w) {
                all[0] += 1 << ride.surfer;
                all[2] = ride.score > all[1] ? ride.surfer : all[2];
                all[1] = Math.max(all[1], ride.score);
                all[3] += ride.hindered ? 1 : 0;
            }
        }
        return all[what];
    }

    int swimTo(int s, int to) {
        return (back[s] == null ? minute : back[s]) + minutes(Math.abs(to - place[s]), swimsOf(s));
    }

    int swim(int s, int to) {
        known(s);
        argument(to >= 0 && to <= 40);
        state(hinderings[s] < 2 && riding[s] == null);
        return swimTo(s, to);
    }

    int reach(int s, int w, int what) {
        known(s);
        knownWave(w);
        if (w < next) {
            throw new NoSuchElementException();
        }
        what(what, 2);
        state(hinderings[s] < 2 && riding[s] == null);
        TreeSet<Integer> places = new TreeSet<>();
        for (int p = 0; p <= 40; p++) {
            if (swimTo(s, p) <= sea.waves.get(w)[0] && (can(w, p, 0, 1) || can(w, p, 1, 1))) {
                places.add(p);
            }
        }
        return what == 0 ? places.size() : places.isEmpty() ? -1 : what == 1 ? places.first() : places.last();
    }

    int count(int what) {
        int outBits = 0;
        int onBits = 0;
        for (int s = 0; s < surfers(); s++) {
            outBits += out[s] ? 1 << s : 0;
            onBits += riding[s] != null ? 1 << s : 0;
        }
        int unjudged = 0;
        for (Ride ride : rides) {
            unjudged += ride.unjudged != 0 ? 1 : 0;
        }
        int[] all = {surfers(), waves(), minute, start, sea == null ? 30 : sea.heat(), sea == null ? 0 : sea.again(),
            there, over ? 1 : 0, row != null ? 1 : 0, outBits, restarts, rides.size(), unjudged,
            judge == null ? -1 : judge.size(), onBits};
        return what < 0 || what >= all.length ? -1 : all[what];
    }
}
