import java.util.NoSuchElementException;

/**
 * The right of the wave: a heat of surfers in a sea of waves, scored by a judge; sea and judge are
 * told as texts. README.md tells how to use it.
 */
public final class WaveRight {
    public static final int NONE = -1;

    private static final int MOST_BYTES = 400;
    private static final int MOST_SURFERS = 5;
    private static final int MOST_WAVES = 20;
    private static final int MOST_LETTERS = 6;
    private static final int LAST_PLACE = 40;
    private static final int MOST_RIDE = 20;
    private static final int MOST_TURNS = 9;
    private static final int MOST_SCORE = 100;
    private static final int MOST_SEEN = 6;
    private static final int SENT_IN_BY = 2;

    private static final int LEFT = 0;
    private static final int RIGHT = 1;

    private static final int MINUTE = 0;
    private static final int PEAK = 1;
    private static final int WAYS = 2;
    private static final int HIGH = 3;
    private static final int LONG = 4;
    private static final int WAVE_FACTS = 5;

    // A text is read into the spare, so that a wrong one leaves the one in use as it is.
    private Sea spareSea = new Sea();
    private Judge spareJudge = new Judge();
    private final Text tape = new Text();
    private final SeaReader seaReader = new SeaReader(tape, spareSea);
    private final JudgeReader judgeReader = new JudgeReader(tape, spareJudge);
    private int faultAt = NONE;
    private final Heat heat = new Heat();
    private final Standing standing = new Standing(heat);
    private final Advice advice = new Advice(heat, standing);
    private final Looking looking = new Looking(heat);

    public WaveRight() {
    }

    // ---- the texts ----

    public int feed(int a, int b, int c, int d, int e) {
        if (tape.length + 20 > MOST_BYTES) {
            return NONE;
        }
        tape.append(a);
        tape.append(b);
        tape.append(c);
        tape.append(d);
        tape.append(e);
        return tape.length;
    }

    public boolean end(int n) {
        if (n < 0 || n > tape.length) {
            return false;
        }
        tape.length = n;
        return true;
    }

    public int sea() throws IllegalArgumentException {
        faultAt = seaReader.readInto(spareSea);
        tape.length = 0;
        if (faultAt != NONE) {
            throw new IllegalArgumentException("the text is no sea");
        }
        Sea old = heat.sea;
        heat.sea = spareSea;
        spareSea = old;
        heat.begin();
        return heat.sea.waves;
    }

    public int judge() throws IllegalArgumentException {
        faultAt = judgeReader.readInto(spareJudge);
        tape.length = 0;
        if (faultAt != NONE) {
            throw new IllegalArgumentException("the text is no judge");
        }
        Judge old = heat.judge;
        heat.judge = spareJudge;
        spareJudge = old;
        return heat.judge.lines;
    }

    public int fault() {
        return faultAt;
    }

    // ---- the heat ----

    public int anew() throws IllegalStateException {
        if (heat.sea.surfers == 0) {
            throw new IllegalStateException("there is no sea");
        }
        heat.begin();
        return heat.sea.surfers;
    }

    public int comes() {
        return heat.nextWave();
    }

    public int wave(int wave, int what) throws IndexOutOfBoundsException, NoSuchElementException {
        mustBeWave(wave);
        mustBeOneOf(what, WAVE_FACTS);
        return heat.sea.factOf(wave, what);
    }

    public int surfer(int surfer, int what) throws IndexOutOfBoundsException, NoSuchElementException {
        mustBeSurfer(surfer);
        mustBeOneOf(what, 11);
        Swimmer one = heat.swimmers[surfer];
        switch (what) {
            case 0: return one.place;
            case 1: return one.swims;
            case 2: return one.out ? 1 : 0;
            case 3: return one.aim;
            case 4: return one.back;
            case 5: return one.hinderings;
            case 6: return one.rideCount;
            case 7: return standing.totalWith(one, 0, 0);
            case 8: return standing.rankWith(one, 0);
            case 9: return one.first;
            default: return one.second;
        }
    }

    public int name(int surfer, int k) throws IndexOutOfBoundsException {
        mustBeSurfer(surfer);
        return heat.sea.letterOf(surfer, k);
    }

    public int goal(int surfer, int place)
            throws IndexOutOfBoundsException, IllegalArgumentException, IllegalStateException {
        mustBeSurfer(surfer);
        mustBePlace(place);
        Swimmer one = heat.swimmers[surfer];
        if (!one.out) {
            throw new IllegalStateException("that one is not out");
        }
        int before = one.aim;
        one.aim = place;
        return before;
    }

    public int row(int k) {
        return heat.line.at(k);
    }

    public int take(int surfer, int way, int ride, int turns)
            throws IndexOutOfBoundsException, IllegalArgumentException, IllegalStateException {
        mustBeSurfer(surfer);
        if (way != LEFT && way != RIGHT) {
            throw new IllegalArgumentException("it is no way");
        }
        mustBeRide(ride, turns);
        Swimmer one = heat.swimmers[surfer];
        if (heat.there == NONE || !one.out || !heat.canGo(heat.there, one.place, way, ride)) {
            throw new IllegalStateException("it cannot be taken so");
        }
        heat.takenBy(one, way, ride, turns);
        return one.lastPlace();
    }

    public int right(int one, int other)
            throws IndexOutOfBoundsException, IllegalArgumentException, IllegalStateException {
        mustBeSurfer(one);
        mustBeSurfer(other);
        if (one == other) {
            throw new IllegalArgumentException("both are one");
        }
        if (heat.there == NONE) {
            throw new IllegalStateException("no wave is there");
        }
        return heat.rightOf(one, other);
    }

    public int hinders(int surfer) throws IndexOutOfBoundsException {
        mustBeSurfer(surfer);
        Swimmer one = heat.swimmers[surfer];
        return one.onWave ? heat.hinderedBy(one, one.way, one.length) : 0;
    }

    public int ride(int surfer, int k, int what) throws IndexOutOfBoundsException, NoSuchElementException {
        mustBeSurfer(surfer);
        Swimmer one = heat.swimmers[surfer];
        if (k < 0 || k >= one.rideCount) {
            throw new NoSuchElementException("there is no such ride");
        }
        mustBeOneOf(what, Swimmer.RIDE_FACTS);
        return one.rideFact(k, what);
    }

    public int would(int surfer, int wave, int place, int ride, int turns)
            throws IndexOutOfBoundsException, IllegalArgumentException {
        mustBeSurfer(surfer);
        mustBeWave(wave);
        mustBePlace(place);
        mustBeRide(ride, turns);
        return heat.scoreOf(heat.swimmers[surfer], wave, place, ride, turns);
    }

    // ---- who leads, what to do ----

    public int ranked(int rank) throws NoSuchElementException {
        for (int k = 0; k < heat.sea.surfers; k++) {
            if (standing.rankWith(heat.swimmers[k], 0) == rank) {
                return k;
            }
        }
        throw new NoSuchElementException("there is no such rank");
    }

    public int need(int surfer) throws IndexOutOfBoundsException {
        mustBeSurfer(surfer);
        return standing.leastToLead(heat.swimmers[surfer]);
    }

    public int best(int surfer, int what)
            throws IndexOutOfBoundsException, NoSuchElementException, IllegalStateException {
        mustBeSurfer(surfer);
        mustBeOneOf(what, 3);
        Swimmer one = heat.swimmers[surfer];
        if (heat.there == NONE || !one.out) {
            throw new IllegalStateException("no wave is there, or that one is not out");
        }
        advice.findRide(one, heat.there, false);
        return what == 0 ? advice.length : what == 1 ? advice.way : advice.score;
    }

    public int plan(int surfer, int what)
            throws IndexOutOfBoundsException, NoSuchElementException, IllegalStateException {
        mustBeSurfer(surfer);
        mustBeOneOf(what, 3);
        mustHaveTime(surfer);
        if (heat.over) {
            throw new IllegalStateException("the heat is over");
        }
        advice.findPlan(heat.swimmers[surfer]);
        return what == 0 ? advice.total : what == 1 ? advice.firstWave : advice.secondWave;
    }

    public int seen(int k) {
        return k < 0 || k >= heat.seenCount ? NONE : heat.latest[k];
    }

    public long worth(int surfer, int n, int r)
            throws IndexOutOfBoundsException, IllegalArgumentException, IllegalStateException {
        mustBeSurfer(surfer);
        mustLookAhead(n, r, 0);
        Swimmer one = heat.swimmers[surfer];
        return looking.worthOf(one.first, one.second, n, r);
    }

    public int least(int surfer, int n, int r)
            throws IndexOutOfBoundsException, IllegalArgumentException, IllegalStateException {
        mustBeSurfer(surfer);
        mustLookAhead(n, r, 1);
        Swimmer one = heat.swimmers[surfer];
        return looking.leastToTake(one.first, one.second, n, r);
    }

    public int took(int wave, int what) throws IndexOutOfBoundsException, NoSuchElementException {
        mustBeWave(wave);
        if (wave >= heat.next || wave == heat.there) {
            throw new NoSuchElementException("it did not go by");
        }
        mustBeOneOf(what, Heat.GONE_FACTS);
        return heat.gone[wave * Heat.GONE_FACTS + what];
    }

    public int swim(int surfer, int place)
            throws IndexOutOfBoundsException, IllegalArgumentException, IllegalStateException {
        mustBeSurfer(surfer);
        mustBePlace(place);
        mustHaveTime(surfer);
        return heat.minuteAt(heat.swimmers[surfer], place);
    }

    public int reach(int surfer, int wave, int what)
            throws IndexOutOfBoundsException, NoSuchElementException, IllegalStateException {
        mustBeSurfer(surfer);
        mustBeWave(wave);
        if (wave < heat.next) {
            throw new NoSuchElementException("it is not to come");
        }
        mustBeOneOf(what, 3);
        mustHaveTime(surfer);
        return advice.reachOf(heat.swimmers[surfer], wave, what);
    }

    public int count(int what) {
        switch (what) {
            case 0: return heat.sea.surfers;
            case 1: return heat.sea.waves;
            case 2: return heat.minute;
            case 3: return heat.start;
            case 4: return heat.sea.minutes;
            case 5: return heat.sea.again;
            case 6: return heat.there;
            case 7: return heat.over ? 1 : 0;
            case 8: return heat.line.told ? 1 : 0;
            case 9: return heat.bitsOf(false);
            case 10: return heat.restarts;
            case 11: return heat.judged;
            case 12: return heat.unjudged;
            case 13: return heat.judge.lines == 0 ? NONE : heat.judge.lines;
            case 14: return heat.bitsOf(true);
            default: return NONE;
        }
    }

    // ---- what a call asks of its numbers ----

    private void mustBeSurfer(int surfer) throws IndexOutOfBoundsException {
        if (surfer < 0 || surfer >= heat.sea.surfers) {
            throw new IndexOutOfBoundsException("there is no such surfer");
        }
    }

    private void mustBeWave(int wave) throws IndexOutOfBoundsException {
        if (wave < 0 || wave >= heat.sea.waves) {
            throw new IndexOutOfBoundsException("there is no such wave");
        }
    }

    private void mustBeOneOf(int what, int many) throws NoSuchElementException {
        if (what < 0 || what >= many) {
            throw new NoSuchElementException("it is another what");
        }
    }

    private void mustBePlace(int place) throws IllegalArgumentException {
        if (place < 0 || place > LAST_PLACE) {
            throw new IllegalArgumentException("it is no place");
        }
    }

    private void mustBeRide(int ride, int turns) throws IllegalArgumentException {
        if (ride < 1 || ride > MOST_RIDE || turns < 0 || turns > MOST_TURNS) {
            throw new IllegalArgumentException("it is no ride, or no turns");
        }
    }

    private void mustHaveTime(int surfer) throws IllegalStateException {
        Swimmer one = heat.swimmers[surfer];
        if (one.sentIn() || one.onWave) {
            throw new IllegalStateException("that one is sent in, or on the wave");
        }
    }

    private void mustLookAhead(int n, int r, int fewest) throws IllegalArgumentException, IllegalStateException {
        if (n < 0 || n > Looking.FARTHEST || r < fewest || r > Looking.FARTHEST) {
            throw new IllegalArgumentException("it is no number of waves, or of rides");
        }
        if (heat.seenCount == 0) {
            throw new IllegalStateException("nothing is seen");
        }
    }

    /**
     * The tape, read token by token. A reader goes on to the next token only when this one may stand
     * there, so that the fault of a text is always where its token begins (or the text's length).
     */
    private static final class Text {
        static final int AT_END = 0;
        static final int WORD = 1;
        static final int NUMBER = 2;
        static final int SIGN = 3;

        final int[] bytes = new int[MOST_BYTES];
        int length;
        int kind;
        int begins;
        int ends;
        int number;

        void append(int four) {
            for (int shift = 24; shift >= 0; shift -= 8) {
                if (length < bytes.length) {
                    bytes[length++] = (four >>> shift) & 255;
                }
            }
        }

        void open() {
            ends = 0;
            advance();
        }

        void advance() {
            int at = ends;
            while (at < length && isBlank(bytes[at])) {
                at++;
            }
            begins = at;
            if (at >= length) {
                kind = AT_END;
            } else if (isLetter(bytes[at])) {
                kind = WORD;
                while (at < length && isLetter(bytes[at])) {
                    at++;
                }
            } else if (isDigit(bytes[at])) {
                kind = NUMBER;
                number = 0;
                while (at < length && isDigit(bytes[at])) {
                    // One of more than 4 digits is refused by its length: what it tells is of no matter.
                    number = at - begins < 4 ? number * 10 + bytes[at] - '0' : number;
                    at++;
                }
            } else {
                kind = SIGN;
                at++;
            }
            ends = at;
        }

        boolean isWord(String word) {
            if (kind != WORD || word.length() != ends - begins) {
                return false;
            }
            for (int k = 0; k < word.length() && begins + k < length; k++) {
                if (bytes[begins + k] != word.charAt(k)) {
                    return false;
                }
            }
            return true;
        }

        boolean isSign(int sign) {
            return kind == SIGN && begins < length && bytes[begins] == sign;
        }

        boolean passWord(String word) {
            boolean is = isWord(word);
            if (is) {
                advance();
            }
            return is;
        }

        boolean passSign(int sign) {
            boolean is = isSign(sign);
            if (is) {
                advance();
            }
            return is;
        }

        /** The number that stands here, passed by; NONE, and it stays, if none such stands here. */
        int passNumber(int least, int most, int digits) {
            if (kind != NUMBER || ends - begins > digits || number < least || number > most) {
                return NONE;
            }
            int told = number;
            advance();
            return told;
        }

        private static boolean isBlank(int sign) {
            return sign == 9 || sign == 10 || sign == 32;
        }

        private static boolean isLetter(int sign) {
            return sign >= 'a' && sign <= 'z';
        }

        private static boolean isDigit(int sign) {
            return sign >= '0' && sign <= '9';
        }
    }

    /** What a text of the sea tells; no call but sea() changes it. */
    private static final class Sea {
        static final int MINUTES_WITHOUT = 30;

        final int[] letters = new int[MOST_SURFERS * MOST_LETTERS];
        final int[] letterCounts = new int[MOST_SURFERS];
        final int[] places = new int[MOST_SURFERS];
        final int[] speeds = new int[MOST_SURFERS];
        final int[] facts = new int[MOST_WAVES * WAVE_FACTS];
        int surfers;
        int waves;
        int minutes = MINUTES_WITHOUT;
        int again;

        void clear() {
            surfers = 0;
            waves = 0;
            minutes = MINUTES_WITHOUT;
            again = 0;
        }

        int factOf(int wave, int what) {
            int at = wave * WAVE_FACTS + what;
            return at < 0 || at >= facts.length ? 0 : facts[at];
        }

        int letterOf(int surfer, int k) {
            if (surfer < 0 || surfer >= surfers || k < 0 || k >= letterCounts[surfer]) {
                return NONE;
            }
            return letters[surfer * MOST_LETTERS + k];
        }

        /** The word that stands in the text, as the name of the surfer who is told next. */
        void writeName(Text text) {
            int many = text.ends - text.begins;
            if (surfers >= MOST_SURFERS || many > MOST_LETTERS) {
                return;
            }
            letterCounts[surfers] = many;
            for (int k = 0; k < many && text.begins + k < text.length; k++) {
                letters[surfers * MOST_LETTERS + k] = text.bytes[text.begins + k];
            }
        }

        boolean isNameOf(int surfer, Text text) {
            if (text.ends - text.begins != letterCounts[surfer]) {
                return false;
            }
            for (int k = 0; k < letterCounts[surfer] && text.begins + k < text.length; k++) {
                if (letterOf(surfer, k) != text.bytes[text.begins + k]) {
                    return false;
                }
            }
            return true;
        }

        void addSurfer(int place, int speed) {
            if (surfers < MOST_SURFERS) {
                places[surfers] = place;
                speeds[surfers] = speed;
                surfers++;
            }
        }

        void addWave(int minute, int peak, int ways, int high, int far) {
            if (waves < MOST_WAVES) {
                int at = waves * WAVE_FACTS;
                facts[at + MINUTE] = minute;
                facts[at + PEAK] = peak;
                facts[at + WAYS] = ways;
                facts[at + HIGH] = high;
                facts[at + LONG] = far;
                waves++;
            }
        }
    }

    /** Reads the tape as a sea. Each step answers whether the text goes on so. */
    private static final class SeaReader {
        private static final int DIGITS = 2;

        private final Text text;
        private Sea sea;
        private boolean minutesTold;
        private boolean againTold;

        SeaReader(Text text, Sea sea) {
            this.text = text;
            this.sea = sea;
        }

        /** THE FAULT of the text, NONE without. */
        int readInto(Sea into) {
            sea = into;
            sea.clear();
            minutesTold = false;
            againTold = false;
            text.open();
            for (int lines = 0; lines < MOST_BYTES && text.kind != Text.AT_END; lines++) {
                if (!passLine() || !text.passSign(';')) {
                    return text.begins;
                }
            }
            return sea.surfers < 2 ? text.begins : NONE;
        }

        private boolean passLine() {
            if (text.isWord("surfer")) {
                return passSurfer();
            }
            if (text.isWord("wave")) {
                return passWave();
            }
            if (text.isWord("heat")) {
                return passMinutes();
            }
            return text.isWord("again") && passAgain();
        }

        private boolean passSurfer() {
            if (sea.surfers >= MOST_SURFERS) {
                return false;
            }
            text.advance();
            if (!isNewName()) {
                return false;
            }
            sea.writeName(text);
            text.advance();
            int place = text.passWord("at") ? text.passNumber(0, LAST_PLACE, DIGITS) : NONE;
            if (place == NONE || !text.passWord("swims")) {
                return false;
            }
            int speed = text.passNumber(1, 9, DIGITS);
            if (speed == NONE) {
                return false;
            }
            sea.addSurfer(place, speed);
            return true;
        }

        private boolean isNewName() {
            if (text.kind != Text.WORD || text.ends - text.begins > MOST_LETTERS || isKept()) {
                return false;
            }
            for (int k = 0; k < sea.surfers; k++) {
                if (sea.isNameOf(k, text)) {
                    return false;
                }
            }
            return true;
        }

        private boolean isKept() {
            return text.isWord("surfer") || text.isWord("at") || text.isWord("swims") || text.isWord("heat")
                    || text.isWord("again") || text.isWord("wave") || text.isWord("left") || text.isWord("right")
                    || text.isWord("both") || text.isWord("high") || text.isWord("long");
        }

        private boolean passMinutes() {
            if (minutesTold) {
                return false;
            }
            minutesTold = true;
            text.advance();
            sea.minutes = text.passNumber(1, 60, DIGITS);
            return sea.minutes != NONE;
        }

        private boolean passAgain() {
            if (againTold) {
                return false;
            }
            againTold = true;
            text.advance();
            sea.again = text.passNumber(0, 30, DIGITS);
            return sea.again != NONE;
        }

        private boolean passWave() {
            if (sea.waves >= MOST_WAVES) {
                return false;
            }
            text.advance();
            int ahead = sea.waves == 0 ? 1 : sea.factOf(sea.waves - 1, MINUTE);
            int minute = text.passNumber(ahead, 99, DIGITS);
            if (minute == NONE || !text.passWord("at")) {
                return false;
            }
            int peak = text.passNumber(0, LAST_PLACE, DIGITS);
            int ways = peak == NONE ? 0 : passWays();
            if (ways == 0 || !text.passWord("high")) {
                return false;
            }
            int high = text.passNumber(1, 9, DIGITS);
            if (high == NONE || !text.passWord("long")) {
                return false;
            }
            int far = text.passNumber(1, 15, DIGITS);
            if (far == NONE) {
                return false;
            }
            sea.addWave(minute, peak, ways, high, far);
            return true;
        }

        private int passWays() {
            if (text.passWord("left")) {
                return 1;
            }
            if (text.passWord("right")) {
                return 2;
            }
            return text.passWord("both") ? 3 : 0;
        }
    }

    /**
     * A judge as a row of steps for a machine with a stack of numbers and one flag. A C needs no stack
     * of truths: a jump over what is not needed leaves the flag as it is for the next jump.
     */
    private static final class Judge {
        static final int MOST_LINES = 10;
        static final int FACTS = 8;

        static final int PUT = 0;
        static final int FETCH = 1;
        static final int ADD = 2;
        static final int SUBTRACT = 3;
        static final int MULTIPLY = 4;
        static final int DIVIDE = 5;
        static final int LESS = 6;
        static final int EQUAL = 7;
        static final int GREATER = 8;
        static final int NEGATE = 9;
        static final int JUMP_IF_TRUE = 10;
        static final int JUMP_IF_FALSE = 11;

        static final int BEYOND = 1;
        static final int BY_ZERO = 2;

        // Each token of a text makes one step at most.
        private final int[] kinds = new int[MOST_BYTES];
        private final int[] values = new int[MOST_BYTES];
        private int steps;
        private final boolean[] adds = new boolean[MOST_LINES];
        private final int[] lineBegins = new int[MOST_LINES + 1];
        private final int[] sumEnds = new int[MOST_LINES];
        int lines;

        final int[] facts = new int[FACTS];
        // Each of the 7 levels of brackets keeps a SUM and a PRODUCT open, the outermost one more.
        private final int[] stack = new int[24];
        private int height;
        private boolean flag;
        private int trouble;

        void clear() {
            steps = 0;
            lines = 0;
        }

        /** A further step: its number. */
        int write(int kind, int value) {
            if (steps < kinds.length) {
                kinds[steps] = kind;
                values[steps] = value;
                steps++;
            }
            return steps - 1;
        }

        /** Tells a jump that was written that it leads behind the latest step. */
        void landHere(int jump) {
            if (jump >= 0 && jump < steps) {
                values[jump] = steps;
            }
        }

        void beginLine(boolean adding) {
            if (lines < MOST_LINES) {
                adds[lines] = adding;
                lineBegins[lines] = steps;
            }
        }

        void endSum() {
            if (lines < MOST_LINES) {
                sumEnds[lines] = steps;
            }
        }

        void endLine() {
            if (lines < MOST_LINES) {
                lines++;
                lineBegins[lines] = steps;
            }
        }

        /** The SCORE by the facts as they stand; below 0 what it is UNJUDGED by. */
        int scoreByFacts() {
            trouble = 0;
            int sum = 0;
            for (int k = 0; k < lines && trouble == 0; k++) {
                height = 0;
                flag = true;
                // The C stands behind its SUM, but is asked first: without it the SUM is not reckoned at all.
                run(sumEnds[k], lineBegins[k + 1]);
                if (flag) {
                    run(lineBegins[k], sumEnds[k]);
                    int part = pop();
                    sum = trouble == 0 ? reckon(adds[k] ? ADD : SUBTRACT, sum, part) : sum;
                }
            }
            return trouble != 0 ? -trouble : Math.max(0, Math.min(MOST_SCORE, sum));
        }

        private void run(int from, int to) {
            for (int k = from; k >= 0 && k < to && k < steps && trouble == 0; k++) {
                int kind = kinds[k];
                int value = values[k];
                if (kind == PUT) {
                    push(value);
                } else if (kind == FETCH) {
                    push(value >= 0 && value < FACTS ? facts[value] : 0);
                } else if (kind == NEGATE) {
                    flag = !flag;
                } else if (kind == JUMP_IF_TRUE || kind == JUMP_IF_FALSE) {
                    // Jumps lead forward alone, so the loop ends.
                    k = flag == (kind == JUMP_IF_TRUE) ? Math.max(k, value - 1) : k;
                } else {
                    int right = pop();
                    int left = pop();
                    if (kind == LESS || kind == EQUAL || kind == GREATER) {
                        flag = kind == LESS ? left < right : kind == EQUAL ? left == right : left > right;
                    } else {
                        push(reckon(kind, left, right));
                    }
                }
            }
        }

        private int reckon(int kind, int left, int right) {
            if (kind == DIVIDE && right == 0) {
                trouble = BY_ZERO;
                return 0;
            }
            long exact = kind == ADD ? (long) left + right
                    : kind == SUBTRACT ? (long) left - right
                    : kind == MULTIPLY ? (long) left * right
                    : right == 0 ? 0L : (long) left / right;
            if (exact < Integer.MIN_VALUE || exact > Integer.MAX_VALUE) {
                trouble = BEYOND;
                return 0;
            }
            return (int) exact;
        }

        private void push(int value) {
            if (height >= 0 && height < stack.length) {
                stack[height++] = value;
            }
        }

        private int pop() {
            if (height <= 0 || height > stack.length) {
                return 0;
            }
            height--;
            return stack[height];
        }
    }

    /** Reads the tape as a judge. Each step answers whether the text goes on so. */
    private static final class JudgeReader {
        private static final int MOST_DEEP = 6;
        private static final int DIGITS = 4;

        private final Text text;
        private Judge judge;

        JudgeReader(Text text, Judge judge) {
            this.text = text;
            this.judge = judge;
        }

        /** THE FAULT of the text, NONE without. */
        int readInto(Judge into) {
            judge = into;
            judge.clear();
            text.open();
            for (int k = 0; k < MOST_BYTES; k++) {
                if (!passLine()) {
                    return text.begins;
                }
                if (text.kind == Text.AT_END) {
                    return NONE;
                }
                if (!text.passSign(';')) {
                    return text.begins;
                }
            }
            return text.begins;
        }

        private boolean passLine() {
            boolean adding = text.isWord("plus");
            if (!adding && !text.isWord("less") || judge.lines >= Judge.MOST_LINES) {
                return false;
            }
            text.advance();
            judge.beginLine(adding);
            if (!passSum(0)) {
                return false;
            }
            judge.endSum();
            if (text.passWord("if") && !passAny(0)) {
                return false;
            }
            judge.endLine();
            return true;
        }

        private boolean passAny(int depth) {
            if (!passAll(depth)) {
                return false;
            }
            for (int k = 0; k < MOST_BYTES && text.passWord("or"); k++) {
                int jump = judge.write(Judge.JUMP_IF_TRUE, 0);
                if (!passAll(depth)) {
                    return false;
                }
                judge.landHere(jump);
            }
            return true;
        }

        private boolean passAll(int depth) {
            if (!passAtom(depth)) {
                return false;
            }
            for (int k = 0; k < MOST_BYTES && text.passWord("and"); k++) {
                int jump = judge.write(Judge.JUMP_IF_FALSE, 0);
                if (!passAtom(depth)) {
                    return false;
                }
                judge.landHere(jump);
            }
            return true;
        }

        private boolean passAtom(int depth) {
            // A loop, as a text may tell a hundred nots in a row: of two nothing is left.
            boolean negated = false;
            for (int k = 0; k < MOST_BYTES && text.passWord("not"); k++) {
                negated = !negated;
            }
            boolean goesOn = text.isSign('(') ? passGroup(depth) : passComparison(depth);
            if (goesOn && negated) {
                judge.write(Judge.NEGATE, 0);
            }
            return goesOn;
        }

        private boolean passGroup(int depth) {
            if (depth >= MOST_DEEP) {
                return false;
            }
            text.advance();
            return passAny(depth + 1) && text.passSign(')');
        }

        private boolean passComparison(int depth) {
            if (!passSum(depth)) {
                return false;
            }
            int kind = text.isSign('<') ? Judge.LESS : text.isSign('=') ? Judge.EQUAL
                    : text.isSign('>') ? Judge.GREATER : NONE;
            if (kind == NONE) {
                return false;
            }
            text.advance();
            if (!passSum(depth)) {
                return false;
            }
            judge.write(kind, 0);
            return true;
        }

        private boolean passSum(int depth) {
            if (!passProduct(depth)) {
                return false;
            }
            for (int k = 0; k < MOST_BYTES && (text.isSign('+') || text.isSign('-')); k++) {
                int kind = text.isSign('+') ? Judge.ADD : Judge.SUBTRACT;
                text.advance();
                if (!passProduct(depth)) {
                    return false;
                }
                judge.write(kind, 0);
            }
            return true;
        }

        private boolean passProduct(int depth) {
            if (!passPart(depth)) {
                return false;
            }
            for (int k = 0; k < MOST_BYTES && (text.isSign('*') || text.isSign('/')); k++) {
                int kind = text.isSign('*') ? Judge.MULTIPLY : Judge.DIVIDE;
                text.advance();
                if (!passPart(depth)) {
                    return false;
                }
                judge.write(kind, 0);
            }
            return true;
        }

        private boolean passPart(int depth) {
            if (text.isSign('[')) {
                if (depth >= MOST_DEEP) {
                    return false;
                }
                text.advance();
                return passSum(depth + 1) && text.passSign(']');
            }
            int fact = factTold();
            if (fact != NONE) {
                text.advance();
                judge.write(Judge.FETCH, fact);
                return true;
            }
            int number = text.passNumber(0, 9999, DIGITS);
            if (number == NONE) {
                return false;
            }
            judge.write(Judge.PUT, number);
            return true;
        }

        /** The number of the fact whose word stands here, as Heat.scoreOf writes it. */
        private int factTold() {
            if (text.isWord("high")) {
                return 0;
            }
            if (text.isWord("long")) {
                return 1;
            }
            if (text.isWord("ride")) {
                return 2;
            }
            if (text.isWord("far")) {
                return 3;
            }
            if (text.isWord("turns")) {
                return 4;
            }
            if (text.isWord("minute")) {
                return 5;
            }
            if (text.isWord("rides")) {
                return 6;
            }
            return text.isWord("best") ? 7 : NONE;
        }
    }

    /** What is so of one surfer in this heat. */
    private static final class Swimmer {
        static final int RIDE_FACTS = 7;

        final int number;
        final int[] rides = new int[MOST_WAVES * RIDE_FACTS];
        int rideCount;
        int place;
        int aim;
        int swims = 1;
        boolean out;
        boolean onWave;
        int back = NONE;
        int hinderings;
        int first;
        int second;
        // The ride by the wave that is there; way and length stay told behind it, but nobody asks then.
        int way;
        int length;
        int turns;

        Swimmer(int number) {
            this.number = number;
        }

        void begin(int at, int speed) {
            place = at;
            aim = at;
            swims = speed;
            out = true;
            onWave = false;
            back = NONE;
            hinderings = 0;
            rideCount = 0;
            first = 0;
            second = 0;
        }

        boolean sentIn() {
            return hinderings >= SENT_IN_BY;
        }

        int firstOfPath() {
            return way == LEFT ? place - length : place;
        }

        int lastPlace() {
            return way == LEFT ? place - length : place + length;
        }

        /** How many minutes as many places need. */
        int minutesFor(int places) {
            return swims < 1 ? 0 : (places + swims - 1) / swims;
        }

        void swimFor(int minutes) {
            int far = Math.min(Math.abs(aim - place), swims * minutes);
            place += aim < place ? -far : far;
        }

        void keepRide(int wave, int score, boolean hindered, int unjudged) {
            int at = rideCount * RIDE_FACTS;
            if (at + RIDE_FACTS > rides.length) {
                return;
            }
            rides[at] = score;
            rides[at + 1] = wave;
            rides[at + 2] = length;
            rides[at + 3] = turns;
            rides[at + 4] = way;
            rides[at + 5] = hindered ? 1 : 0;
            rides[at + 6] = unjudged;
            rideCount++;
            second = Math.max(second, Math.min(first, score));
            first = Math.max(first, score);
        }

        int rideFact(int k, int what) {
            int at = k * RIDE_FACTS + what;
            return at < 0 || at >= rides.length ? 0 : rides[at];
        }
    }

    /** THE ROW; empty as long as there is no PRIORITY (told). */
    private static final class Row {
        private final int[] numbers = new int[MOST_SURFERS];
        private int many;
        boolean told;

        void clear() {
            many = 0;
            told = false;
        }

        int at(int k) {
            return k < 0 || k >= many ? NONE : numbers[k];
        }

        void add(int number) {
            if (many < numbers.length) {
                numbers[many++] = number;
            }
        }

        void leave(int number) {
            int kept = 0;
            for (int k = 0; k < many; k++) {
                if (numbers[k] != number) {
                    numbers[kept++] = numbers[k];
                }
            }
            many = kept;
        }

        /** Who of two is ahead; NONE, if neither is there. */
        int aheadOf(int one, int other) {
            for (int k = 0; k < many; k++) {
                if (numbers[k] == one || numbers[k] == other) {
                    return numbers[k];
                }
            }
            return NONE;
        }
    }

    /** The course of a heat: the waves that come and go by, who takes them, what it brings. */
    private static final class Heat {
        static final int GONE_FACTS = 4;

        Sea sea = new Sea();
        Judge judge = new Judge();
        final Swimmer[] swimmers = new Swimmer[MOST_SURFERS];
        final Row line = new Row();
        final int[] gone = new int[MOST_WAVES * GONE_FACTS];
        final int[] latest = new int[MOST_SEEN];
        int seenCount;
        int judged;
        int unjudged;
        int minute;
        int start;
        int restarts;
        int next;
        int there = NONE;
        boolean over = true;
        private boolean anyTaken;

        Heat() {
            for (int k = 0; k < MOST_SURFERS; k++) {
                swimmers[k] = new Swimmer(k);
            }
        }

        void begin() {
            for (int k = 0; k < sea.surfers; k++) {
                swimmers[k].begin(sea.places[k], sea.speeds[k]);
            }
            line.clear();
            seenCount = 0;
            judged = 0;
            unjudged = 0;
            minute = 0;
            start = 0;
            restarts = 0;
            next = 0;
            there = NONE;
            over = false;
            anyTaken = false;
        }

        int nextWave() {
            if (over) {
                return NONE;
            }
            if (there != NONE) {
                goBy();
            }
            if (next >= sea.waves) {
                over = true;
                return NONE;
            }
            int then = sea.factOf(next, MINUTE);
            beginAgain(then);
            if (then > start + sea.minutes) {
                over = true;
                return NONE;
            }
            passTo(then);
            there = next;
            next++;
            return there;
        }

        private void beginAgain(int then) {
            if (sea.again <= 0 || anyTaken) {
                return;
            }
            for (; then > start + sea.again; start += sea.again) {
                restarts++;
            }
        }

        private void passTo(int then) {
            for (int k = 0; k < sea.surfers; k++) {
                if (swimmers[k].out) {
                    swimmers[k].swimFor(then - minute);
                }
            }
            minute = then;
            for (int k = 0; k < sea.surfers; k++) {
                int earliest = earliestBack();
                if (earliest == NONE) {
                    break;
                }
                comeOut(swimmers[earliest]);
            }
        }

        /** Of those who are back by now the first one; NONE without. */
        private int earliestBack() {
            int earliest = NONE;
            for (int k = 0; k < sea.surfers; k++) {
                int back = swimmers[k].back;
                if (back != NONE && back <= minute && (earliest == NONE || back < swimmers[earliest].back)) {
                    earliest = k;
                }
            }
            return earliest;
        }

        private void comeOut(Swimmer one) {
            one.out = true;
            one.back = NONE;
            one.aim = one.place;
            if (line.told) {
                line.add(one.number);
            }
        }

        /** Whether that ride can be by its PEAK, LONG and WAYS. */
        boolean canGo(int wave, int place, int way, int length) {
            int peak = sea.factOf(wave, PEAK);
            int behind = way == LEFT ? peak - place : place - peak;
            return (sea.factOf(wave, WAYS) >> way & 1) == 1 && behind >= 0
                    && behind + length <= sea.factOf(wave, LONG);
        }

        void takenBy(Swimmer one, int way, int length, int turns) {
            one.out = false;
            one.onWave = true;
            one.way = way;
            one.length = length;
            one.turns = turns;
            anyTaken = true;
        }

        int rightOf(int one, int other) {
            if (line.told) {
                return line.aheadOf(one, other);
            }
            int peak = sea.factOf(there, PEAK);
            int far = Math.abs(swimmers[one].place - peak);
            int otherFar = Math.abs(swimmers[other].place - peak);
            return far == otherFar ? Math.min(one, other) : far < otherFar ? one : other;
        }

        /** Whom of those who have taken the wave one hinders (or would hinder) by such a ride, as bits. */
        int hinderedBy(Swimmer one, int way, int length) {
            int from = way == LEFT ? one.place - length : one.place;
            int bits = 0;
            for (int k = 0; k < sea.surfers; k++) {
                Swimmer other = swimmers[k];
                if (k != one.number && other.onWave && other.way == way
                        && other.firstOfPath() <= from + length && from <= other.firstOfPath() + other.length
                        && rightOf(one.number, k) == k) {
                    bits |= 1 << k;
                }
            }
            return bits;
        }

        /** Who has taken the wave that is there, or who is OUT, as bits. */
        int bitsOf(boolean onWave) {
            int bits = 0;
            for (int k = 0; k < sea.surfers; k++) {
                if (onWave ? swimmers[k].onWave : swimmers[k].out) {
                    bits |= 1 << k;
                }
            }
            return bits;
        }

        int scoreOf(Swimmer one, int wave, int place, int length, int turns) {
            int high = sea.factOf(wave, HIGH);
            if (judge.lines == 0) {
                return Math.min(MOST_SCORE, high * length);
            }
            int[] facts = judge.facts;
            facts[0] = high;
            facts[1] = sea.factOf(wave, LONG);
            facts[2] = length;
            facts[3] = Math.abs(place - sea.factOf(wave, PEAK));
            facts[4] = turns;
            facts[5] = sea.factOf(wave, MINUTE) - start;
            facts[6] = one.rideCount;
            facts[7] = one.first;
            return judge.scoreByFacts();
        }

        private void goBy() {
            int at = there * GONE_FACTS;
            int takers = bitsOf(true);
            gone[at] = takers;
            gone[at + 1] = NONE;
            gone[at + 2] = NONE;
            gone[at + 3] = 0;
            for (int k = 0; k < sea.surfers; k++) {
                if (swimmers[k].onWave) {
                    judgeRide(swimmers[k], at);
                }
            }
            // All are judged by who was on the wave and by THE ROW, so these change only now.
            leaveWave();
            if (takers != 0) {
                settleRow(takers);
            }
            there = NONE;
        }

        private void judgeRide(Swimmer one, int at) {
            boolean hindered = hinderedBy(one, one.way, one.length) != 0;
            int told = hindered ? 0 : scoreOf(one, there, one.place, one.length, one.turns);
            int score = Math.max(0, told);
            one.keepRide(there, score, hindered, told < 0 ? -told : 0);
            judged++;
            if (hindered) {
                one.hinderings++;
                gone[at + 3]++;
            } else if (told < 0) {
                unjudged++;
            } else {
                keepSeen(score);
            }
            if (score > gone[at + 1]) {
                gone[at + 1] = score;
                gone[at + 2] = one.number;
            }
        }

        private void keepSeen(int score) {
            seenCount = Math.min(MOST_SEEN, seenCount + 1);
            for (int k = seenCount - 1; k > 0; k--) {
                latest[k] = latest[k - 1];
            }
            latest[0] = score;
        }

        private void leaveWave() {
            for (int k = 0; k < sea.surfers; k++) {
                Swimmer one = swimmers[k];
                if (one.onWave) {
                    one.onWave = false;
                    one.back = one.sentIn() ? NONE : minute + 1 + one.minutesFor(one.length);
                }
            }
        }

        private void settleRow(int takers) {
            for (int k = 0; k < sea.surfers; k++) {
                boolean taker = (takers >> k & 1) == 1;
                if (line.told && taker) {
                    line.leave(k);
                } else if (!line.told && !taker && !swimmers[k].sentIn()) {
                    line.add(k);
                }
            }
            line.told = true;
        }

        /** The first minute at which one who is OUT, or will be, could be at a place. */
        int minuteAt(Swimmer one, int place) {
            int from = one.out ? minute : one.back;
            return from + one.minutesFor(Math.abs(place - one.place));
        }
    }

    /** Who leads, and by what one would. */
    private static final class Standing {
        private final Heat heat;

        Standing(Heat heat) {
            this.heat = heat;
        }

        /** TOTAL of one with two scores more (0: none). */
        int totalWith(Swimmer one, int score, int other) {
            int high = Math.max(score, other);
            int low = Math.min(score, other);
            int first = Math.max(one.first, high);
            if (one.hinderings > 0) {
                return first;
            }
            return first + Math.max(Math.min(one.first, high), Math.max(one.second, low));
        }

        /** RANK of one with a score more (0: none). */
        int rankWith(Swimmer one, int score) {
            int total = totalWith(one, score, 0);
            int first = Math.max(one.first, score);
            int ahead = 0;
            for (int k = 0; k < heat.sea.surfers; k++) {
                Swimmer other = heat.swimmers[k];
                int otherTotal = totalWith(other, 0, 0);
                boolean better = otherTotal != total ? otherTotal > total
                        : other.first != first ? other.first > first : k < one.number;
                if (k != one.number && better) {
                    ahead++;
                }
            }
            return ahead;
        }

        int leastToLead(Swimmer one) {
            for (int score = 0; score <= MOST_SCORE; score++) {
                if (rankWith(one, score) == 0) {
                    return score;
                }
            }
            return NONE;
        }
    }

    /** BEST RIDE, PLAN and REACH; the answers stand in the fields until the next question. */
    private static final class Advice {
        private final Heat heat;
        private final Standing standing;
        int length;
        int way;
        int score;
        int total;
        int firstWave;
        int secondWave;
        private final int[] scores = new int[MOST_WAVES];
        private final int[] backs = new int[MOST_WAVES];

        Advice(Heat heat, Standing standing) {
            this.heat = heat;
            this.standing = standing;
        }

        /** BEST RIDE of one from where that one is; alone, or so as to hinder nobody on the wave. */
        void findRide(Swimmer one, int wave, boolean alone) {
            length = NONE;
            way = NONE;
            score = NONE;
            for (int far = 1; far <= MOST_RIDE; far++) {
                for (int side = LEFT; side <= RIGHT; side++) {
                    if (heat.canGo(wave, one.place, side, far)
                            && (alone || heat.hinderedBy(one, side, far) == 0)) {
                        compareRide(side, far, Math.max(0, heat.scoreOf(one, wave, one.place, far, 0)));
                    }
                }
            }
        }

        private void compareRide(int side, int far, int told) {
            if (told > score) {
                score = told;
                way = side;
                length = far;
            }
        }

        void findPlan(Swimmer one) {
            readWaves(one);
            total = standing.totalWith(one, 0, 0);
            firstWave = NONE;
            secondWave = NONE;
            for (int k = heat.next; k < heat.sea.waves; k++) {
                if (scores[k] != NONE) {
                    comparePlan(standing.totalWith(one, scores[k], 0), k, NONE);
                }
            }
            // Pairs only behind all single ones: of plans as good the fewest waves count.
            for (int k = heat.next; k < heat.sea.waves; k++) {
                for (int m = k + 1; m < heat.sea.waves; m++) {
                    if (scores[k] != NONE && scores[m] != NONE && heat.sea.factOf(m, MINUTE) >= backs[k]) {
                        comparePlan(standing.totalWith(one, scores[k], scores[m]), k, m);
                    }
                }
            }
        }

        private void comparePlan(int would, int wave, int other) {
            if (would > total) {
                total = would;
                firstWave = wave;
                secondWave = other;
            }
        }

        /** What each wave to come would bring alone (NONE: it cannot be taken), and BACK of it. */
        private void readWaves(Swimmer one) {
            for (int k = heat.next; k < heat.sea.waves; k++) {
                int then = heat.sea.factOf(k, MINUTE);
                scores[k] = NONE;
                if (then <= heat.start + heat.sea.minutes && (one.out || then >= one.back)) {
                    findRide(one, k, true);
                    scores[k] = score;
                    backs[k] = then + 1 + one.minutesFor(Math.max(0, length));
                }
            }
        }

        int reachOf(Swimmer one, int wave, int what) {
            int many = 0;
            int least = NONE;
            int greatest = NONE;
            for (int place = 0; place <= LAST_PLACE; place++) {
                if (heat.minuteAt(one, place) <= heat.sea.factOf(wave, MINUTE)
                        && (heat.canGo(wave, place, LEFT, 1) || heat.canGo(wave, place, RIGHT, 1))) {
                    many++;
                    least = least == NONE ? place : least;
                    greatest = place;
                }
            }
            return what == 0 ? many : what == 1 ? least : greatest;
        }
    }

    /**
     * LOOKING BACK. The best two scores that can ever stand are ones of a pool: those of now and the
     * SEEN ones. So a table over rides left and two of the pool, gone through once a wave, tells it.
     */
    private static final class Looking {
        static final int FARTHEST = 6;
        private static final int POOL = MOST_SEEN + 2;

        private final Heat heat;
        private final int[] pool = new int[POOL];
        private int many;
        private final int[] seenAt = new int[MOST_SEEN];
        private final long[] table = new long[(FARTHEST + 1) * POOL * POOL];

        Looking(Heat heat) {
            this.heat = heat;
        }

        /** WORTH with n waves to come and r rides left, if the best two are first and second. */
        long worthOf(int first, int second, int n, int r) {
            fillPool(first, second);
            for (int k = 0; k <= r; k++) {
                for (int high = 0; high < many; high++) {
                    for (int low = high; low < many; low++) {
                        write(k, high, low, pool[high] + pool[low]);
                    }
                }
            }
            for (int wave = 0; wave < n; wave++) {
                lookAtWave(r);
            }
            return read(r, placeOf(first), placeOf(second));
        }

        /** TAKE; of two scores the greater one is never worth less, so the range can be halved. */
        int leastToTake(int first, int second, int n, int r) {
            long waiting = worthOf(first, second, n, r);
            int least = 0;
            int beyond = MOST_SCORE + 1;
            while (least < beyond) {
                int score = (least + beyond) / 2;
                int low = Math.max(second, Math.min(first, score));
                if (worthOf(Math.max(first, score), low, n, r - 1) >= waiting) {
                    beyond = score;
                } else {
                    least = score + 1;
                }
            }
            return least > MOST_SCORE ? NONE : least;
        }

        private void fillPool(int first, int second) {
            many = 0;
            keep(first);
            keep(second);
            for (int k = 0; k < heat.seenCount; k++) {
                keep(heat.latest[k]);
            }
            for (int k = 0; k < heat.seenCount; k++) {
                seenAt[k] = placeOf(heat.latest[k]);
            }
        }

        /** Puts a score into the pool, the greatest first. */
        private void keep(int score) {
            if (many >= pool.length) {
                return;
            }
            int at = many;
            for (; at > 0 && pool[at - 1] < score; at--) {
                pool[at] = pool[at - 1];
            }
            pool[at] = score;
            many++;
        }

        private int placeOf(int score) {
            for (int k = 0; k < many; k++) {
                if (pool[k] == score) {
                    return k;
                }
            }
            return 0;
        }

        /** One wave more ahead; the rides fall, as each row needs the one below it as it was. */
        private void lookAtWave(int r) {
            for (int k = r; k >= 0; k--) {
                for (int high = 0; high < many; high++) {
                    for (int low = high; low < many; low++) {
                        write(k, high, low, worthOfWave(k, high, low));
                    }
                }
            }
        }

        private long worthOfWave(int rides, int high, int low) {
            long waiting = read(rides, high, low);
            if (rides == 0) {
                return waiting * heat.seenCount;
            }
            long sum = 0;
            for (int k = 0; k < heat.seenCount; k++) {
                int at = seenAt[k];
                long taking = at <= high ? read(rides - 1, at, high) : read(rides - 1, high, Math.min(at, low));
                sum += Math.max(waiting, taking);
            }
            return sum;
        }

        private long read(int rides, int high, int low) {
            int at = (rides * POOL + high) * POOL + low;
            return at < 0 || at >= table.length ? 0 : table[at];
        }

        private void write(int rides, int high, int low, long worth) {
            int at = (rides * POOL + high) * POOL + low;
            if (at >= 0 && at < table.length) {
                table[at] = worth;
            }
        }
    }
}
