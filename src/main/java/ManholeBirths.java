import java.util.Arrays;

/**
 * The port whose people are born by coming up through manholes: a net of joints and pipes told as a
 * text, the not yet born who walk in it, and what can be said of where they come up.
 */
public final class ManholeBirths {
    public static final int UNKNOWN = -1, OUTSIDE = -2, STATE = -3, FULL = -4, NONE = -9;

    private static final int MOST_LETTERS = 60, MOST_JOINTS = 6, MOST_PIPES = 8, MOST_WALKERS = 4;
    private static final int MOST_ACTS = 14, MOST_HEARD = 6, MOST_STEPS_HEARD = 9, MOST_GONE = 9;
    private static final int UP = 0, DOWN = 1, ROUND = 2, TURNS = 4;
    private static final int STEPS_TO_COME = 40, STEPS_TO_SHARE = 20, STEPS_TO_WATCH = 8;
    private static final long SEED_FACTOR = 6364136223846793005L, SEED_ADDEND = 1442695040888963407L;
    private static final int[] FACTORIALS = {1, 1, 2, 6, 24};

    private final Letters text;
    private final Reader check;
    private final Reader maker;
    private final Net net;
    private final Moment now;
    /** Where looks ahead are tried out, so that nothing is changed by them. */
    private final Moment trial;
    private final int[] passed;
    private final Row acts;
    private final Moment slotZero;
    private final Moment slotOne;
    private final Heard heard;
    private int kept;
    private long chance;

    public ManholeBirths() {
        text = new Letters();
        // A text is read twice: a faulty one must not touch the net that stands.
        check = new Reader();
        maker = new Reader();
        net = maker.net;
        now = new Moment();
        trial = new Moment();
        passed = new int[MOST_WALKERS];
        acts = new Row();
        slotZero = new Moment();
        slotOne = new Moment();
        heard = new Heard();
    }

    // ---- the net

    public int write(int letter) {
        if (letter < 0 || letter > 255) return OUTSIDE;
        if (text.length >= MOST_LETTERS) return FULL;
        text.add(letter);
        return text.length;
    }

    public int wipe() {
        int length = text.length;
        text.length = 0;
        return length;
    }

    public int fault() {
        return check.read(text);
    }

    public int net() {
        if (check.read(text) != NONE) return STATE;
        maker.read(text);
        now.begin(net);
        acts.count = 0;
        kept = 0;
        return 100 * net.joints + 10 * net.pipes + net.walkers;
    }

    public int joint(int joint, int what) {
        if (isNoJoint(joint)) return UNKNOWN;
        switch (what) {
            case 0: return cell(net.levels, joint);
            case 1: return flag(has(net.lids, joint));
            case 2: return flag(has(now.sealed, joint));
            case 3: return flag(has(net.under(net.tide(now.clock)), joint));
            case 4: return net.beside(joint, now.open);
            default: return OUTSIDE;
        }
    }

    public int pipe(int pipe, int what) {
        if (isNoPipe(pipe)) return UNKNOWN;
        switch (what) {
            case 0: return cell(net.ends, pipe);
            case 1: return cell(net.otherEnds, pipe);
            case 2: return flag(has(now.open, pipe));
            default: return OUTSIDE;
        }
    }

    public int walker(int walker, int what) {
        if (isNoWalker(walker)) return UNKNOWN;
        switch (what) {
            case 0: return cell(now.at, walker);
            case 1: return cell(now.from, walker);
            case 2: return cell(now.gone, walker);
            case 3: return cell(net.turns, walker);
            case 4: return cell(net.own, walker);
            case 5: return flag(has(now.out, walker));
            case 6: return now.nextOf(walker, net, net.tide(now.clock));
            case 7: return cell(net.least, walker);
            default: return OUTSIDE;
        }
    }

    // ---- acts

    public int step() {
        acts.push(now);
        int before = now.out;
        now.advance(net);
        return now.out & ~before;
    }

    public int shut(int pipe) {
        if (isNoPipe(pipe)) return UNKNOWN;
        acts.push(now);
        now.turnPipe(pipe);
        return flag(has(now.open, pipe));
    }

    public int seal(int joint) {
        if (isNoJoint(joint)) return UNKNOWN;
        if (!has(net.lids, joint)) return STATE;
        acts.push(now);
        now.turnLid(joint);
        return flag(has(now.sealed, joint));
    }

    public int call(int walker) {
        if (isNoWalker(walker)) return UNKNOWN;
        if (has(now.out, walker)) return STATE;
        acts.push(now);
        int gone = cell(now.gone, walker);
        now.callBack(walker);
        return gone;
    }

    public int undo() {
        if (acts.count <= 0) return STATE;
        acts.popInto(now);
        return acts.count;
    }

    // ---- who comes up

    public int ahead(int n, int what) {
        if (n < 0 || n > 30 || isNoChoice(what)) return OUTSIDE;
        tryFromNow(n);
        return what == 0 ? trial.out : trial.right(net);
    }

    public int comes(int walker, int what) {
        if (isNoWalker(walker)) return UNKNOWN;
        if (isNoChoice(what)) return OUTSIDE;
        trial.copy(now);
        int steps = trial.goUntilOut(walker, net);
        return what == 0 ? steps : trial.outAt(walker);
    }

    public int way(int joint, int other) {
        if (isNoJoint(joint) || isNoJoint(other)) return UNKNOWN;
        return net.stepsBetween(joint, other, now.open);
    }

    public int mend(int walker) {
        if (isNoWalker(walker)) return UNKNOWN;
        if (has(now.out, walker)) return STATE;
        for (int pipe = 0; pipe < net.pipes; pipe++) {
            trial.copy(now);
            trial.turnPipe(pipe);
            trial.goUntilOut(walker, net);
            if (trial.isRight(walker, net)) return pipe;
        }
        return NONE;
    }

    public int watch() {
        findPassed();
        int best = all(net.joints);
        for (int joints = best; joints >= 0; joints--) {
            // Going down, of like ones the last found is the least.
            if (Integer.bitCount(joints) <= Integer.bitCount(best) && meetsAll(joints)) best = joints;
        }
        return best;
    }

    private void findPassed() {
        trial.copy(now);
        Arrays.fill(passed, 0);
        for (int steps = 0; steps <= STEPS_TO_WATCH; steps++) {
            for (int walker = 0; walker < net.walkers; walker++) {
                put(passed, walker, cell(passed, walker) | bit(cell(trial.at, walker)));
            }
            trial.advance(net);
        }
    }

    private boolean meetsAll(int joints) {
        for (int walker = 0; walker < net.walkers; walker++) {
            if (!has(now.out, walker) && (cell(passed, walker) & joints) == 0) return false;
        }
        return true;
    }

    public int judge(int n, int row) {
        if (n < 1 || n > 4 || row < 0 || doingOf(row, n, -1) > 0) return OUTSIDE;
        trial.copy(now);
        for (int place = 0; place < n; place++) {
            int doing = doingOf(row, n, place);
            if (!isTried(doing / 10, doing % 10)) return place;
        }
        return NONE;
    }

    /** The two figures at a place among n; for place -1 all that stands ahead of the n doings. */
    private static int doingOf(int row, int n, int place) {
        int left = row;
        for (int i = n - 1; i > place; i--) left /= 100;
        return place < 0 ? left : left % 100;
    }

    /** Does a told doing in the trial, if it can be. */
    private boolean isTried(int kind, int which) {
        switch (kind) {
            case 0:
                if (which != 0) return false;
                trial.advance(net);
                return true;
            case 1:
            case 2:
                if (isNoPipe(which) || has(trial.open, which) != (kind == 1)) return false;
                trial.turnPipe(which);
                return true;
            case 3:
                if (isNoJoint(which) || !has(net.lids, which)) return false;
                trial.turnLid(which);
                return true;
            case 4:
                if (isNoWalker(which) || has(trial.out, which)) return false;
                trial.callBack(which);
                return true;
            default:
                return false;
        }
    }

    // ---- heard

    public int hear(int walker, int joint, int n) {
        if (isNoWalker(walker) || isNoJoint(joint)) return UNKNOWN;
        if (n < 1 || n > MOST_STEPS_HEARD) return OUTSIDE;
        if (heard.count >= MOST_HEARD) return FULL;
        heard.add(walker, joint, n);
        return heard.count;
    }

    public int unhear() {
        int count = heard.count;
        heard.count = 0;
        return count;
    }

    public int turning(int walker) {
        if (isNoWalker(walker)) return UNKNOWN;
        if (has(now.out, walker)) return STATE;
        int bits = 0;
        for (int turn = 0; turn < TURNS; turn++) {
            if (isAsHeard(walker, turn)) bits |= bit(turn);
        }
        return bits;
    }

    private boolean isAsHeard(int walker, int turn) {
        trial.copy(now);
        put(trial.turns, walker, turn);
        for (int n = 1; n <= MOST_STEPS_HEARD; n++) {
            trial.advance(net);
            if (!heard.allows(walker, n, cell(trial.at, walker), net.joints)) return false;
        }
        return true;
    }

    // ---- shares, rests, chances

    public int share(int walker, boolean upper) {
        if (isNoWalker(walker)) return UNKNOWN;
        int above = 0;
        for (int come = 0; come <= all(net.walkers); come++) {
            if (has(come, walker)) continue;
            int more = rightAmong(come | bit(walker)) - rightAmong(come);
            above += more * ordersWith(Integer.bitCount(come));
        }
        return fraction(above, cell(FACTORIALS, net.walkers), upper);
    }

    /** How many are right in the steps of a share, if only these are there. */
    private int rightAmong(int come) {
        trial.copy(now);
        trial.there = come;
        trial.advanceTimes(STEPS_TO_SHARE, net);
        return Integer.bitCount(trial.right(net));
    }

    /** In how many orders just these many, already chosen, come ahead of one. */
    private int ordersWith(int ahead) {
        return cell(FACTORIALS, ahead) * cell(FACTORIALS, net.walkers - ahead - 1);
    }

    public int rests(int one, int other, int what) {
        if (isNoWalker(one) || isNoWalker(other)) return UNKNOWN;
        if (one == other || isNoChoice(what)) return OUTSIDE;
        tryFromNow(STEPS_TO_COME);
        int oneOut = trial.outAt(one);
        int otherOut = trial.outAt(other);
        int count = 0;
        int first = NONE;
        for (int joint = 0; joint < net.joints; joint++) {
            for (int its = 0; its < net.joints; its++) {
                if (!isAtRest(joint, its, oneOut, otherOut)) continue;
                if (count == 0) first = 10 * joint + its;
                count++;
            }
        }
        return what == 0 ? count : first;
    }

    private boolean isAtRest(int joint, int its, int oneOut, int otherOut) {
        return has(net.lids, joint) && has(net.lids, its)
            && isBest(joint, its, oneOut, otherOut) && isBest(its, joint, otherOut, oneOut);
    }

    /** No other lid gives a mother more than this joint does, the other mother standing where she stands. */
    private boolean isBest(int joint, int its, int ownOut, int otherOut) {
        int gained = gain(joint, its, ownOut, otherOut);
        for (int lid = 0; lid < net.joints; lid++) {
            if (has(net.lids, lid) && gain(lid, its, ownOut, otherOut) > gained) return false;
        }
        return true;
    }

    private static int gain(int joint, int its, int ownOut, int otherOut) {
        return (joint == ownOut ? 3 : 0) + (joint == otherOut ? 2 : 0) - (joint == its ? 1 : 0);
    }

    public int flood(int walker, int n, int x, boolean upper) {
        if (isNoWalker(walker)) return UNKNOWN;
        if (n < 1 || n > 6 || x < 0 || x > 10) return OUTSIDE;
        int above = 0;
        int below = 1;
        for (int i = 0; i < n; i++) below *= 10;
        for (int tides = 0; tides < 1 << n; tides++) {
            int weight = weightOf(tides, n, x);
            if (weight > 0 && isOutByTides(walker, n, tides)) above += weight;
        }
        return fraction(above, below, upper);
    }

    /** How likely a row of tides is, in parts of 10 to the power n. */
    private static int weightOf(int tides, int n, int x) {
        int weight = 1;
        for (int i = 0; i < n; i++) weight *= has(tides, i) ? x : 10 - x;
        return weight;
    }

    /** Whether a walker is out behind n steps, each with the high tide where its bit is set. */
    private boolean isOutByTides(int walker, int n, int tides) {
        trial.copy(now);
        for (int i = 0; i < n; i++) trial.advanceBy(has(tides, i) ? net.high : net.low, net);
        return has(trial.out, walker);
    }

    public long seed(long v) {
        long was = chance;
        chance = v;
        return was;
    }

    public int years(int m) {
        if (m < 1 || m > 30) return OUTSIDE;
        trial.copy(now);
        for (int i = 0; i < m; i++) {
            chance = chance * SEED_FACTOR + SEED_ADDEND;
            int drawn = (int) ((chance >>> 33) % 14);
            if (drawn >= MOST_PIPES) trial.advance(net);
            else if (drawn < net.pipes) trial.turnPipe(drawn);
        }
        return Integer.bitCount(trial.right(net));
    }

    // ---- slots

    public int keep(int slot) {
        if (isNoChoice(slot)) return UNKNOWN;
        slotOf(slot).copy(now);
        kept |= bit(slot);
        return now.clock;
    }

    public int again(int slot) {
        if (isNoChoice(slot)) return UNKNOWN;
        if (!has(kept, slot)) return STATE;
        now.copy(slotOf(slot));
        acts.count = 0;
        return now.clock;
    }

    private Moment slotOf(int slot) {
        return slot == 0 ? slotZero : slotOne;
    }

    public int count(int what) {
        switch (what) {
            case 0: return text.length;
            case 1: return net.joints;
            case 2: return net.pipes;
            case 3: return net.walkers;
            case 4: return now.clock;
            case 5: return net.tide(now.clock);
            case 6: return now.out;
            case 7: return now.right(net);
            case 8: return acts.count;
            case 9: return heard.count;
            default: return OUTSIDE;
        }
    }

    // ---- what the calls share

    private void tryFromNow(int steps) {
        trial.copy(now);
        trial.advanceTimes(steps, net);
    }

    private boolean isNoJoint(int joint) {
        return joint < 0 || joint >= net.joints;
    }

    private boolean isNoPipe(int pipe) {
        return pipe < 0 || pipe >= net.pipes;
    }

    private boolean isNoWalker(int walker) {
        return walker < 0 || walker >= net.walkers;
    }

    /** Where a number must be 0 or 1. */
    private static boolean isNoChoice(int what) {
        return what < 0 || what > 1;
    }

    private static int flag(boolean is) {
        return is ? 1 : 0;
    }

    /** The part above or below of a fraction in least terms. */
    private static int fraction(int above, int below, boolean upper) {
        int common = commonDivisor(Math.abs(above), below);
        if (common == 0) return NONE;
        return upper ? above / common : below / common;
    }

    private static int commonDivisor(int one, int other) {
        int a = one;
        int b = other;
        // Euclid's way on ints ends in fewer than 50 rounds.
        for (int i = 0; i < 64 && b != 0; i++) {
            int left = a % b;
            a = b;
            b = left;
        }
        return a;
    }

    private static boolean has(int bits, int i) {
        return i >= 0 && i < 31 && (bits >> i & 1) != 0;
    }

    /** No bit for NONE. */
    private static int bit(int i) {
        return i >= 0 && i < 31 ? 1 << i : 0;
    }

    /** The bits of the first so many. */
    private static int all(int count) {
        return bit(count) - 1;
    }

    /** Every look into a row by number goes through here, so that no number is used untested. */
    private static int cell(int[] row, int i) {
        return i >= 0 && i < row.length ? row[i] : NONE;
    }

    private static void put(int[] row, int i, int value) {
        if (i >= 0 && i < row.length) row[i] = value;
    }

    /** THE TEXT. */
    private static final class Letters {
        private final int[] letters = new int[MOST_LETTERS];
        int length;

        void add(int letter) {
            put(letters, length, letter);
            length++;
        }

        int at(int place) {
            return cell(letters, place);
        }
    }

    /** Reads letters one by one into a net, up to the first by which they can be none. */
    private static final class Reader {
        private static final int START = -1, BETWEEN = 0;

        final Net net = new Net();
        private final int[] figures = new int[4];
        /** The letter by which the part began that is being read, or START, or BETWEEN parts. */
        private int part;
        private int told;

        /** FAULT. */
        int read(Letters text) {
            net.clear();
            part = START;
            for (int place = 0; place < text.length; place++) {
                if (!takes(text.at(place))) return place;
            }
            return part == BETWEEN ? NONE : text.length;
        }

        private boolean takes(int letter) {
            if (part == START || part == BETWEEN) {
                if (!mayBegin(letter)) return false;
                part = letter;
                told = 0;
                return true;
            }
            int figure = letter - '0';
            if (figure < 0 || figure > 9 || !fits(figure)) return false;
            put(figures, told, figure);
            told++;
            if (told == figuresOfPart()) {
                addPart();
                part = BETWEEN;
            }
            return true;
        }

        private boolean mayBegin(int letter) {
            if (part == START) return letter == 'B';
            switch (letter) {
                case 'J': return net.joints < MOST_JOINTS;
                case 'P': return net.hasRoomForPipe();
                case 'W': return net.walkers < MOST_WALKERS && net.joints > 0;
                default: return false;
            }
        }

        private int figuresOfPart() {
            return part == 'W' ? 4 : 2;
        }

        private boolean fits(int figure) {
            switch (part) {
                case 'J': return told == 0 || figure <= 1;
                case 'P': return told == 0 ? net.joinable(figure) != 0 : has(net.joinable(cell(figures, 0)), figure);
                case 'W': return fitsWalker(figure);
                default: return true;
            }
        }

        private boolean fitsWalker(int figure) {
            switch (told) {
                case 1: return figure >= 1;
                case 2: return figure < TURNS;
                default: return figure < net.joints;
            }
        }

        private void addPart() {
            int first = cell(figures, 0);
            int second = cell(figures, 1);
            switch (part) {
                case 'J': net.addJoint(first, second); break;
                case 'P': net.addPipe(first, second); break;
                case 'W': net.addWalker(figures); break;
                default: net.setTides(first, second); break;
            }
        }
    }

    /** What a text tells, and what follows from it alone. */
    private static final class Net {
        int high;
        int low;
        int joints;
        int pipes;
        int walkers;
        int lids;
        final int[] levels = new int[MOST_JOINTS];
        final int[] ends = new int[MOST_PIPES];
        final int[] otherEnds = new int[MOST_PIPES];
        final int[] start = new int[MOST_WALKERS];
        final int[] least = new int[MOST_WALKERS];
        final int[] turns = new int[MOST_WALKERS];
        final int[] own = new int[MOST_WALKERS];

        void clear() {
            setTides(0, 0);
            joints = 0;
            pipes = 0;
            walkers = 0;
            lids = 0;
        }

        void setTides(int high, int low) {
            this.high = high;
            this.low = low;
        }

        void addJoint(int level, int kind) {
            put(levels, joints, level);
            if (kind == 1) lids |= bit(joints);
            joints++;
        }

        void addPipe(int end, int otherEnd) {
            put(ends, pipes, end);
            put(otherEnds, pipes, otherEnd);
            pipes++;
        }

        void addWalker(int[] figures) {
            put(start, walkers, cell(figures, 0));
            put(least, walkers, cell(figures, 1));
            put(turns, walkers, cell(figures, 2));
            put(own, walkers, cell(figures, 3));
            walkers++;
        }

        /** Each two joints are joined once, so that pipes use up the pairs one by one. */
        boolean hasRoomForPipe() {
            return pipes < MOST_PIPES && 2 * pipes < joints * (joints - 1);
        }

        /** The joints that one more pipe may join to a joint. */
        int joinable(int joint) {
            if (joint < 0 || joint >= joints) return 0;
            return all(joints) & ~bit(joint) & ~beside(joint, all(pipes));
        }

        /** The joints that one of these pipes joins to a joint. */
        int beside(int joint, int open) {
            int bits = 0;
            for (int pipe = 0; pipe < pipes; pipe++) {
                if (!has(open, pipe)) continue;
                int end = cell(ends, pipe);
                int otherEnd = cell(otherEnds, pipe);
                if (end == joint) bits |= bit(otherEnd);
                if (otherEnd == joint) bits |= bit(end);
            }
            return bits;
        }

        int tide(int clock) {
            return (clock & 3) < 2 ? high : low;
        }

        int under(int tide) {
            int bits = 0;
            for (int joint = 0; joint < joints; joint++) {
                if (cell(levels, joint) < tide) bits |= bit(joint);
            }
            return bits;
        }

        /** Of these joints the highest (sign 1) or the lowest (sign -1). */
        int outermost(int among, int sign) {
            int best = NONE;
            for (int joint = 0; joint < joints; joint++) {
                if (!has(among, joint)) continue;
                if (best == NONE || sign * cell(levels, joint) > sign * cell(levels, best)) best = joint;
            }
            return best;
        }

        /** Of these joints the first that is come to by going round from a joint, by 1 or -1. */
        int firstRound(int among, int joint, int by) {
            int found = joint;
            for (int i = 0; i < joints; i++) {
                found += by;
                if (found >= joints) found = 0;
                if (found < 0) found = joints - 1;
                if (has(among, found)) return found;
            }
            return NONE;
        }

        int stepsBetween(int joint, int other, int open) {
            int reached = bit(joint);
            for (int steps = 0; steps < MOST_JOINTS; steps++) {
                if (has(reached, other)) return steps;
                reached |= besideAny(reached, open);
            }
            return NONE;
        }

        private int besideAny(int some, int open) {
            int bits = 0;
            for (int joint = 0; joint < joints; joint++) {
                if (has(some, joint)) bits |= beside(joint, open);
            }
            return bits;
        }
    }

    /** All that acts change, at one moment. Turns and who is there differ from the net's in trials only. */
    private static final class Moment {
        final int[] at = new int[MOST_WALKERS];
        final int[] from = new int[MOST_WALKERS];
        final int[] gone = new int[MOST_WALKERS];
        final int[] turns = new int[MOST_WALKERS];
        int there;
        int out;
        int open;
        int sealed;
        int clock;

        void begin(Net net) {
            for (int walker = 0; walker < MOST_WALKERS; walker++) {
                put(at, walker, cell(net.start, walker));
                put(from, walker, NONE);
                put(gone, walker, 0);
                put(turns, walker, cell(net.turns, walker));
            }
            there = all(net.walkers);
            out = 0;
            open = all(net.pipes);
            sealed = 0;
            clock = 0;
        }

        void copy(Moment other) {
            for (int walker = 0; walker < MOST_WALKERS; walker++) {
                put(at, walker, cell(other.at, walker));
                put(from, walker, cell(other.from, walker));
                put(gone, walker, cell(other.gone, walker));
                put(turns, walker, cell(other.turns, walker));
            }
            there = other.there;
            out = other.out;
            open = other.open;
            sealed = other.sealed;
            clock = other.clock;
        }

        void turnPipe(int pipe) {
            open ^= bit(pipe);
        }

        void turnLid(int joint) {
            sealed ^= bit(joint);
        }

        void callBack(int walker) {
            put(from, walker, NONE);
            put(gone, walker, 0);
        }

        /** A STEP by THE TIDE that the clock tells. */
        void advance(Net net) {
            advanceBy(net.tide(clock), net);
        }

        void advanceTimes(int steps, Net net) {
            for (int i = 0; i < steps; i++) advanceBy(net.tide(clock), net);
        }

        /** In how many steps, of those looked at, a walker is out: 0, if it is; NONE: in none. */
        int goUntilOut(int walker, Net net) {
            for (int steps = 0; steps < STEPS_TO_COME; steps++) {
                if (has(out, walker)) return steps;
                advanceBy(net.tide(clock), net);
            }
            return has(out, walker) ? STEPS_TO_COME : NONE;
        }

        void advanceBy(int tide, Net net) {
            for (int walker = 0; walker < MOST_WALKERS; walker++) {
                if (has(there & ~out, walker)) {
                    walkOn(walker, nextOf(walker, net, tide));
                    comeUp(walker, net);
                }
            }
            clock++;
        }

        int nextOf(int walker, Net net, int tide) {
            if (has(out, walker)) return NONE;
            int joint = cell(at, walker);
            int dry = net.beside(joint, open) & ~net.under(tide);
            int onward = dry & ~bit(cell(from, walker));
            int among = onward != 0 ? onward : dry;
            switch (cell(turns, walker)) {
                case UP: return net.outermost(among, 1);
                case DOWN: return net.outermost(among, -1);
                case ROUND: return net.firstRound(among, joint, 1);
                default: return net.firstRound(among, joint, -1);
            }
        }

        private void walkOn(int walker, int next) {
            if (next == NONE) return;
            put(from, walker, cell(at, walker));
            put(at, walker, next);
            // Nobody is told to go further than this, so more need not be counted.
            put(gone, walker, Math.min(cell(gone, walker) + 1, MOST_GONE));
        }

        private void comeUp(int walker, Net net) {
            int joint = cell(at, walker);
            if (cell(gone, walker) < cell(net.least, walker) || !has(net.lids & ~sealed, joint)) return;
            out |= bit(walker);
            sealed |= bit(joint);
        }

        /** Where a walker is out, or NONE. */
        int outAt(int walker) {
            return has(out, walker) ? cell(at, walker) : NONE;
        }

        boolean isRight(int walker, Net net) {
            return has(out & there, walker) && cell(at, walker) == cell(net.own, walker);
        }

        int right(Net net) {
            int bits = 0;
            for (int walker = 0; walker < MOST_WALKERS; walker++) {
                if (isRight(walker, net)) bits |= bit(walker);
            }
            return bits;
        }
    }

    /** The moments ahead of the acts that can be undone. */
    private static final class Row {
        private final Moment[] moments = new Moment[MOST_ACTS];
        int count;

        Row() {
            for (int i = 0; i < moments.length; i++) moments[i] = new Moment();
        }

        void push(Moment moment) {
            if (count >= moments.length) forgetFirst();
            Moment free = momentAt(count);
            if (free == null) return;
            free.copy(moment);
            count++;
        }

        void popInto(Moment moment) {
            Moment last = momentAt(count - 1);
            if (last == null) return;
            moment.copy(last);
            count--;
        }

        /** The forgotten one's object goes to the end, to be used again. */
        private void forgetFirst() {
            Moment first = momentAt(0);
            int last = MOST_ACTS - 1;
            for (int i = 0; i < last && i + 1 < moments.length; i++) moments[i] = moments[i + 1];
            if (last < moments.length) moments[last] = first;
            count = last;
        }

        private Moment momentAt(int i) {
            return i >= 0 && i < moments.length ? moments[i] : null;
        }
    }

    /** What was heard of walkers. */
    private static final class Heard {
        private final int[] walkers = new int[MOST_HEARD];
        private final int[] places = new int[MOST_HEARD];
        private final int[] steps = new int[MOST_HEARD];
        int count;

        void add(int walker, int joint, int n) {
            put(walkers, count, walker);
            put(places, count, joint);
            put(steps, count, n);
            count++;
        }

        /** Nothing heard of a walker behind n steps, of so many joints, speaks against its being at one. */
        boolean allows(int walker, int n, int joint, int joints) {
            for (int i = 0; i < count; i++) {
                boolean isOfIt = cell(walkers, i) == walker && cell(steps, i) == n;
                int told = cell(places, i);
                if (isOfIt && told < joints && told != joint) return false;
            }
            return true;
        }
    }
}
