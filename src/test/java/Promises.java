import java.math.BigInteger;

/** Each promise of the document by itself: ordinary inputs, the edges it names, wrong inputs; answers found by hand. */
public final class Promises {
    private static final int UNKNOWN = -1, OUTSIDE = -2, STATE = -3, FULL = -4, NONE = -9;
    private static final int LEAST = Integer.MIN_VALUE, MOST = Integer.MAX_VALUE;

    /**
     * A ring 0-1-2-3 with tides 5 and 2: joints 1 and 3 are under at high tide, 3 always. Walker 0 (from
     * 0, 2 steps, down, own 2) waits two steps, then comes up at 2 in the 4th. Walker 1 (from 2, 1 step,
     * up, own 0) waits likewise, and comes up at 1 in the 3rd.
     */
    private static final String RING = "B52J60J31J81J11P01P12P23P30W0212W2100";
    /** Joint 0 in the middle of 1 (level 7), 2 (level 2), 3 (level 9); its walker never comes up. */
    private static final String STAR = "B00J50J70J20J90P01P02P03W0900";
    /** One lid, at 1, own to both who walk to it from 0. */
    private static final String RIVALS = "B00J00J11P01W0101W0101";

    private static int promise = 0, wrong = 0, asked = 0;

    private static void due(String call, long got, long want) {
        asked++;
        if (got == want) return;
        wrong++;
        System.out.println("promise " + promise + ": " + call + " answered " + got + ", due is " + want);
    }

    private static ManholeBirths written(String text) {
        ManholeBirths x = new ManholeBirths();
        write(x, text);
        return x;
    }

    private static void write(ManholeBirths x, String text) {
        for (char c : text.toCharArray()) x.write(c);
    }

    private static ManholeBirths told(String text) {
        ManholeBirths x = written(text);
        if (x.net() < 0) due("net() of " + text, STATE, 0);
        return x;
    }

    private static void steps(ManholeBirths x, int n) {
        for (int i = 0; i < n; i++) x.step();
    }

    public static void main(String[] args) {
        Runnable[] tests = {
            Promises::anew, Promises::write, Promises::wipe, Promises::fault, Promises::net, Promises::joint,
            Promises::pipe, Promises::walker, Promises::step, Promises::shut, Promises::seal, Promises::call,
            Promises::undo, Promises::ahead, Promises::comes, Promises::way, Promises::mend, Promises::watch,
            Promises::judge, Promises::hear, Promises::unhear, Promises::turning, Promises::share, Promises::rests,
            Promises::flood, Promises::seed, Promises::years, Promises::keep, Promises::again, Promises::count,
        };
        for (Runnable test : tests) {
            promise++;
            test.run();
        }
        System.out.println(asked + " answers asked for, " + wrong + " not as due");
        if (wrong != 0 || promise != 30) System.exit(1);
    }

    private static void anew() {
        ManholeBirths x = new ManholeBirths();
        for (int what = 0; what <= 9; what++) due("count(" + what + ")", x.count(what), 0);
        due("joint", x.joint(0, 0), UNKNOWN);
        due("pipe", x.pipe(0, 0), UNKNOWN);
        due("walker", x.walker(0, 0), UNKNOWN);
        due("step", x.step(), 0);
        due("clock", x.count(4), 1);
        due("watch", x.watch(), 0);
        due("seed", x.seed(5), 0);
        due("again", x.again(0), STATE);
        due("an object of its own", new ManholeBirths().seed(0), 0);
    }

    private static void write() {
        ManholeBirths x = new ManholeBirths();
        for (int wrongLetter : new int[] {-1, 256, LEAST, MOST}) due("write", x.write(wrongLetter), OUTSIDE);
        due("length", x.count(0), 0);
        due("write(0)", x.write(0), 1);
        due("write(255)", x.write(255), 2);
        for (int i = 3; i <= 60; i++) due("write", x.write('J'), i);
        due("one too many", x.write('J'), FULL);
        due("wrong ahead of full", x.write(256), OUTSIDE);
        due("length", x.count(0), 60);
    }

    private static void wipe() {
        ManholeBirths x = told(RING);
        due("wipe", x.wipe(), RING.length());
        due("wipe", x.wipe(), 0);
        due("length", x.count(0), 0);
        due("the net stays", x.count(1), 4);
        due("write", x.write('B'), 1);
    }

    private static void faultOf(String text, int want) {
        due("fault() of " + text, written(text).fault(), want);
    }

    private static void fault() {
        faultOf("", 0);
        faultOf("b", 0);
        faultOf("0", 0);
        faultOf("B", 1);
        faultOf("B:", 1);
        faultOf("B/", 1);
        faultOf("B9", 2);
        faultOf("B9J", 2);
        faultOf("B99", NONE);
        faultOf("B09", NONE);
        faultOf("B00B", 3);
        faultOf("B00j", 3);
        faultOf("B000", 3);
        faultsOfJoints();
        faultsOfPipes();
        faultsOfWalkers();
        ManholeBirths x = told(RING);
        x.write('Q');
        due("fault", x.fault(), RING.length());
        due("nothing changes", x.count(1), 4);
        due("nothing changes", x.count(0), RING.length() + 1);
    }

    private static void faultsOfJoints() {
        faultOf("B00J", 4);
        faultOf("B00J9", 5);
        faultOf("B00Ja", 4);
        faultOf("B00J91", NONE);
        faultOf("B00J92", 5);
        faultOf("B00J00J00J00J00J00J00", NONE);
        faultOf("B00J00J00J00J00J00J00J00", 21);
        faultOf("B00J00J00J00J00J00J00W0105", NONE);
    }

    private static void faultsOfPipes() {
        faultOf("B00P", 3);
        faultOf("B00J00P", 6);
        faultOf("B00J00J00P", 10);
        faultOf("B00J00J00P2", 10);
        faultOf("B00J00J00P1", 11);
        faultOf("B00J00J00P11", 11);
        faultOf("B00J00J00P12", 11);
        faultOf("B00J00J00P10", NONE);
        faultOf("B00J00J00P10P", 12);
        // A joint told behind makes room again.
        faultOf("B00J00J00P10J00P", 16);
        faultOf("B00J00J00P10J00P0", 17);
        faultOf("B00J00J00P10J00P01", 17);
        faultOf("B00J00J00P10J00P02", NONE);
        // Joint 0 is joined to all the others: no pipe begins with it.
        faultOf("B00J00J00J00P01P20P0", 19);
        faultOf("B00J00J00J00P01P20P1", 20);
        faultOf("B00J00J00J00P01P20P10", 20);
        faultOf("B00J00J00J00P01P20P12", NONE);
        String eight = "B00J00J00J00J00J00J00P01P12P23P34P45P50P02P13";
        faultOf(eight, NONE);
        faultOf(eight + "P", 45);
        faultOf(eight + "W0100W0100W0100", NONE);
        faultOf(eight + "W0100W0100W010", 59);
    }

    private static void faultsOfWalkers() {
        faultOf("B00W", 3);
        faultOf("B00J00W", 7);
        faultOf("B00J00W1", 7);
        faultOf("B00J00W0", 8);
        faultOf("B00J00W00", 8);
        faultOf("B00J00W09", 9);
        faultOf("B00J00W094", 9);
        faultOf("B00J00W093", 10);
        faultOf("B00J00W0931", 10);
        faultOf("B00J00W0930", NONE);
        faultOf("B00J00W0100W0100W0100W0100", NONE);
        faultOf("B00J00W0100W0100W0100W0100W", 26);
        faultOf("B00J00W0100W0100W0100W0100J0", 28);
        // 60 letters, and not at its end: its length is set aside.
        faultOf("B00J00J00J00J00J00J00P01P12P23P34P45P50P02W0100W0100W0100W01", 60);
    }

    private static void net() {
        due("net of nothing", new ManholeBirths().net(), STATE);
        due("net without parts", written("B00").net(), 0);
        due("net", written(RING).net(), 442);
        due("most of all", written("B00J00J00J00J00J00J00P01P12P23P34P45P50P02P13W0100W0100W0100").net(), 683);
        ManholeBirths x = told(RING);
        x.hear(0, 3, 2);
        x.seed(77);
        steps(x, 3);
        x.shut(0);
        x.keep(0);
        x.write('W');
        due("net with a fault", x.net(), STATE);
        due("clock", x.count(4), 3);
        due("acts", x.count(8), 4);
        due("kept", x.again(0), 3);
        x.step();
        x.wipe();
        write(x, "B73J01J90P10W0111");
        due("net", x.net(), 211);
        due("the text stays", x.count(0), 17);
        due("tide", x.count(5), 7);
        for (int what : new int[] {4, 6, 7, 8}) due("count(" + what + ")", x.count(what), 0);
        due("heard stays", x.count(9), 1);
        due("seed stays", x.seed(0), 77);
        due("kept is gone", x.again(0), STATE);
        due("undo", x.undo(), STATE);
        due("lid", x.joint(0, 2), 0);
        due("pipe is open", x.pipe(0, 2), 1);
        due("comes from", x.walker(0, 1), NONE);
        due("went", x.walker(0, 2), 0);
        due("out", x.walker(0, 5), 0);
        due("the same net anew", x.net(), 211);
        x.seal(0);
        x.net();
        due("no lid is sealed", x.joint(0, 2), 0);
        x.wipe();
        write(x, "B00J00J00J01");
        due("net", x.net(), 300);
        due("no lid is left over", x.joint(0, 1), 0);
    }

    private static void joint() {
        ManholeBirths x = told(RING);
        int[][] want = {{6, 0, 0, 0, 10}, {3, 1, 0, 1, 5}, {8, 1, 0, 0, 10}, {1, 1, 0, 1, 5}};
        for (int j = 0; j < 4; j++) {
            for (int what = 0; what < 5; what++) due("joint(" + j + ", " + what + ")", x.joint(j, what), want[j][what]);
        }
        for (int j : new int[] {-1, 4, LEAST, MOST}) due("joint", x.joint(j, 0), UNKNOWN);
        for (int what : new int[] {-1, 5, LEAST, MOST}) due("joint", x.joint(0, what), OUTSIDE);
        due("unknown ahead of outside", x.joint(4, 5), UNKNOWN);
        steps(x, 2);
        due("at low tide 3 is not under", x.joint(1, 3), 0);
        due("at low tide 1 is under", x.joint(3, 3), 1);
        x.shut(1);
        due("a shut pipe joins not", x.joint(1, 4), 1);
        due("a shut pipe joins not", x.joint(2, 4), 8);
        x.seal(1);
        due("sealed", x.joint(1, 2), 1);
        due("a level like the tide is not under", told("B50J50").joint(0, 3), 0);
    }

    private static void pipe() {
        ManholeBirths x = told(RING);
        due("end", x.pipe(3, 0), 3);
        due("other end", x.pipe(3, 1), 0);
        due("open", x.pipe(3, 2), 1);
        x.shut(3);
        due("shut", x.pipe(3, 2), 0);
        due("another is open", x.pipe(2, 2), 1);
        for (int p : new int[] {-1, 4, LEAST, MOST}) due("pipe", x.pipe(p, 0), UNKNOWN);
        for (int what : new int[] {-1, 3, LEAST, MOST}) due("pipe", x.pipe(0, what), OUTSIDE);
        due("unknown ahead of outside", x.pipe(4, 3), UNKNOWN);
    }

    private static void walkerIs(String when, ManholeBirths x, int walker, int... want) {
        for (int what = 0; what < want.length; what++) {
            due(when + " walker(" + walker + ", " + what + ")", x.walker(walker, what), want[what]);
        }
    }

    private static void walker() {
        ManholeBirths x = told(RING);
        walkerIs("first", x, 0, 0, NONE, 0, 1, 2, 0, NONE, 2);
        walkerIs("first", x, 1, 2, NONE, 0, 0, 0, 0, NONE, 1);
        for (int w : new int[] {-1, 2, LEAST, MOST}) due("walker", x.walker(w, 0), UNKNOWN);
        for (int what : new int[] {-1, 8, LEAST, MOST}) due("walker", x.walker(0, what), OUTSIDE);
        due("unknown ahead of outside", x.walker(2, 8), UNKNOWN);
        steps(x, 2);
        walkerIs("at low tide", x, 0, 0, NONE, 0, 1, 2, 0, 1, 2);
        x.step();
        walkerIs("third", x, 0, 1, 0, 1, 1, 2, 0, 2, 2);
        walkerIs("third", x, 1, 1, 2, 1, 0, 0, 1, NONE, 1);
        turns();
        ManholeBirths y = told(STAR);
        steps(y, 12);
        due("9 steps at most", y.walker(0, 2), 9);
    }

    private static void nextOf(String text, int want) {
        due("NEXT in " + text, told(text).walker(0, 6), want);
    }

    private static void turns() {
        String star = STAR.substring(0, STAR.length() - 2);
        nextOf(star + "00", 3);
        nextOf(star + "10", 2);
        nextOf(star + "20", 1);
        nextOf(star + "30", 3);
        // Of like ones the least number.
        nextOf("B00J50J50J70J70P02P03P01W0100", 2);
        nextOf("B00J50J70J70J50P03P02P01W0110", 3);
        nextOf("B00J50J70J40J40P03P02P01W0110", 2);
        // Round and round: from the last the first one comes, and from the first, ahead, the last.
        nextOf("B00J00J00J00J00P31P32W3120", 1);
        nextOf("B00J00J00J00J00P31P32P30W3120", 0);
        nextOf("B00J00J00J00J00P31P32P30W3130", 2);
        nextOf("B00J00J00J00J00P10P13P12W1120", 2);
        nextOf("B00J00J00J00J00P13P12W1130", 3);
        nextOf("B00J00J00J00J00P13P12P10W1130", 0);
        // Joints under are passed over.
        nextOf("B30J50J20J30P01P02W0120", 2);
        nextOf("B30J50J20J10P01P02W0120", NONE);
        ManholeBirths x = told(STAR);
        x.step();
        due("no other one: back", x.walker(0, 6), 0);
        x.step();
        due("not where it comes from", x.walker(0, 6), 1);
        x.shut(0);
        due("the lower one is left", x.walker(0, 6), 2);
        x.shut(1);
        due("no other one: back", x.walker(0, 6), 3);
        x.shut(2);
        due("it stays", x.walker(0, 6), NONE);
    }

    private static void step() {
        ManholeBirths x = told(RING);
        int[] came = {0, 0, 2, 1, 0};
        for (int i = 0; i < came.length; i++) {
            due("step " + i, x.step(), came[i]);
            due("clock", x.count(4), i + 1);
        }
        due("who is out seals the lid", x.joint(1, 2), 1);
        due("who is out seals the lid", x.joint(2, 2), 1);
        due("another lid", x.joint(3, 2), 0);
        walkerIs("out", x, 0, 2, 1, 2, 1, 2, 1, NONE, 2);
        ManholeBirths rivals = told(RIVALS);
        due("the first takes the lid", rivals.step(), 1);
        walkerIs("the second", rivals, 1, 1, 0, 1, 0, 1, 0, 0, 1);
        rivals.shut(0);
        due("sealed", rivals.step(), 0);
        rivals.seal(1);
        due("it comes up where it stays", rivals.step(), 2);
        due("went no further", rivals.walker(1, 2), 1);
        ManholeBirths far = told("B00J00J11P01W0301");
        due("not far enough", far.step(), 0);
        due("no lid", far.step(), 0);
        due("far enough", far.step(), 1);
        ManholeBirths waits = told("B00J01W0100");
        due("staying counts not", waits.step(), 0);
        due("nobody", new ManholeBirths().step(), 0);
    }

    private static void shut() {
        ManholeBirths x = told(RING);
        due("shut", x.shut(0), 0);
        due("opened", x.shut(0), 1);
        due("acts", x.count(8), 2);
        for (int p : new int[] {-1, 4, 31, 32, LEAST, MOST}) due("shut", x.shut(p), UNKNOWN);
        due("refused ones are no acts", x.count(8), 2);
        x.shut(0);
        steps(x, 3);
        due("nobody goes through", x.walker(0, 0), 0);
    }

    private static void seal() {
        ManholeBirths x = told(RING);
        due("sealed", x.seal(1), 1);
        due("not any more", x.seal(1), 0);
        due("plain", x.seal(0), STATE);
        for (int j : new int[] {-1, 4, LEAST, MOST}) due("seal", x.seal(j), UNKNOWN);
        due("acts", x.count(8), 2);
        x.seal(1);
        steps(x, 3);
        due("nobody comes up there", x.count(6), 0);
        due("who came there goes on", x.walker(1, 0), 1);
    }

    private static void call() {
        ManholeBirths x = told(STAR);
        due("at first", x.call(0), 0);
        steps(x, 2);
        due("call", x.call(0), 2);
        walkerIs("called", x, 0, 0, NONE, 0, 0, 0, 0, 3, 9);
        due("again", x.call(0), 0);
        for (int w : new int[] {-1, 1, LEAST, MOST}) due("call", x.call(w), UNKNOWN);
        due("acts", x.count(8), 5);
        ManholeBirths ring = told(RING);
        steps(ring, 3);
        due("out", ring.call(1), STATE);
        due("acts", ring.count(8), 3);
        due("call", ring.call(0), 1);
        due("it has to go as far again", ring.step(), 0);
    }

    private static void undo() {
        ManholeBirths x = told(RING);
        due("nothing", x.undo(), STATE);
        steps(x, 3);
        x.shut(1);
        x.seal(3);
        x.call(0);
        due("call", x.undo(), 5);
        walkerIs("not called", x, 0, 1, 0, 1);
        due("seal", x.undo(), 4);
        due("lid", x.joint(3, 2), 0);
        due("shut", x.undo(), 3);
        due("pipe", x.pipe(1, 2), 1);
        due("step", x.undo(), 2);
        due("clock", x.count(4), 2);
        due("out", x.count(6), 0);
        due("lid", x.joint(1, 2), 0);
        walkerIs("back", x, 1, 2, NONE, 0, 0, 0, 0, 1, 1);
        due("another act", x.shut(0), 0);
        due("undone", x.undo(), 2);
        due("undo", x.undo(), 1);
        due("undo", x.undo(), 0);
        due("nothing", x.undo(), STATE);
        due("clock", x.count(4), 0);
        steps(x, 17);
        due("14 at most", x.count(8), 14);
        for (int left = 13; left >= 0; left--) {
            due("undo", x.undo(), left);
            due("clock", x.count(4), left + 3);
        }
        due("nothing", x.undo(), STATE);
        due("the first three are forgotten", x.count(4), 3);
        due("and stand", x.count(6), 2);
    }

    private static void ahead() {
        ManholeBirths x = told(RING);
        int[] out = {0, 0, 0, 2, 3, 3};
        int[] right = {0, 0, 0, 0, 1, 1};
        for (int n = 0; n < out.length; n++) {
            due("ahead(" + n + ", 0)", x.ahead(n, 0), out[n]);
            due("ahead(" + n + ", 1)", x.ahead(n, 1), right[n]);
        }
        due("ahead(30, 0)", x.ahead(30, 0), 3);
        due("nothing is changed", x.count(4), 0);
        due("nothing is changed", x.count(8), 0);
        for (int n : new int[] {-1, 31, LEAST, MOST}) due("ahead", x.ahead(n, 0), OUTSIDE);
        for (int what : new int[] {-1, 2, LEAST, MOST}) due("ahead", x.ahead(1, what), OUTSIDE);
        steps(x, 4);
        due("out now", x.ahead(0, 0), 3);
        due("right now", x.ahead(0, 1), 1);
    }

    private static void comes() {
        ManholeBirths x = told(RING);
        due("comes(0, 0)", x.comes(0, 0), 4);
        due("comes(0, 1)", x.comes(0, 1), 2);
        due("comes(1, 0)", x.comes(1, 0), 3);
        due("comes(1, 1)", x.comes(1, 1), 1);
        due("nothing is changed", x.count(4), 0);
        for (int w : new int[] {-1, 2, LEAST, MOST}) due("comes", x.comes(w, 0), UNKNOWN);
        for (int what : new int[] {-1, 2, LEAST, MOST}) due("comes", x.comes(0, what), OUTSIDE);
        due("unknown ahead of outside", x.comes(2, 2), UNKNOWN);
        steps(x, 3);
        due("it is out", x.comes(1, 0), 0);
        due("where", x.comes(1, 1), 1);
        due("the other one", x.comes(0, 0), 1);
        ManholeBirths star = told(STAR);
        due("never", star.comes(0, 0), NONE);
        due("nowhere", star.comes(0, 1), NONE);
        slowWalkers();
    }

    /** Who can go in two steps of four only. */
    private static void slowWalkers() {
        ManholeBirths x = told("B91J90J10J11P01P12W0912");
        // Low at clocks 2 and 3: to 1, to 2; at high tide all but joint 0 are under: it stays at 2; then 1, 0,
        // where it goes on at the next low tide.
        due("in how many", x.comes(0, 0), 20);
        due("another one", told("B09J81J70J50P10P12W1920").comes(0, 0), 21);
        due("where", x.comes(0, 1), 2);
        due("ahead(19, 0)", x.ahead(19, 0), 0);
        due("ahead(20, 0)", x.ahead(20, 0), 1);
        // This one takes 41 steps; EdgesAhead tells its way, step by step.
        ManholeBirths y = told("B07J51J30J30J80J30J40P15P43P03P54P52P42W4910");
        due("not in 40", y.comes(0, 0), NONE);
        due("not in 40", y.comes(0, 1), NONE);
        y.step();
        due("in 40", y.comes(0, 0), 40);
        due("in 40", y.comes(0, 1), 0);
        steps(y, 39);
        due("out", y.step(), 1);
    }

    private static void way() {
        ManholeBirths x = told(RING);
        int[][] want = {{0, 1, 2, 1}, {1, 0, 1, 2}, {2, 1, 0, 1}, {1, 2, 1, 0}};
        for (int j = 0; j < 4; j++) {
            for (int k = 0; k < 4; k++) due("way(" + j + ", " + k + ")", x.way(j, k), want[j][k]);
        }
        x.shut(0);
        due("the other way round", x.way(0, 1), 3);
        x.shut(3);
        due("cut off", x.way(0, 2), NONE);
        due("cut off", x.way(2, 0), NONE);
        due("to itself", x.way(0, 0), 0);
        for (int j : new int[] {-1, 4, LEAST, MOST}) {
            due("way", x.way(j, 0), UNKNOWN);
            due("way", x.way(0, j), UNKNOWN);
            due("way", x.way(j, j), UNKNOWN);
        }
        due("the longest", told("B99J00J00J00J00J00J00P01P12P23P34P45").way(5, 0), 5);
    }

    private static void mend() {
        ManholeBirths x = told(RING);
        due("pipe 2 leads nowhere dry, and so can be shut", x.mend(0), 2);
        due("its own joint has no lid", x.mend(1), NONE);
        for (int w : new int[] {-1, 2, LEAST, MOST}) due("mend", x.mend(w), UNKNOWN);
        due("nothing is changed", x.pipe(2, 2), 1);
        steps(x, 3);
        due("out", x.mend(1), STATE);
        // Up leads to 1; only with its pipe shut it goes to 2, its own.
        ManholeBirths y = told("B00J00J91J11P01P02W0102");
        due("shut", y.mend(0), 0);
        y.shut(0);
        y.shut(1);
        due("opened", y.mend(0), 1);
    }

    private static void watch() {
        ManholeBirths x = told(RING);
        due("both go by 1, and by 2", x.watch(), 2);
        due("nothing is changed", x.count(4), 0);
        steps(x, 3);
        due("one is out; the other is at 1 and then at 2", x.watch(), 2);
        x.step();
        due("all are out", x.watch(), 0);
        due("nobody", new ManholeBirths().watch(), 0);
        due("two that never meet", told("B00J00J00W0100W1101").watch(), 3);
        due("both go the whole line", told("B00J00J00J00P01P12W0100W2102").watch(), 1);
        due("they go from 0 to 1, and stay at 2", told("B00J00J00J00P01W0900W2902").watch(), 5);
        due("of like ones the least", told("B00J00J00J00J00P01P23W0900W2900").watch(), 5);
        // They go in two steps of four: 1 is come to from the far end in the 8th step, 0 in the 9th.
        ManholeBirths slow = told("B91J90J10J10J10J10J10P01P12P23P34P45W0900W5905");
        due("8 steps by tides", slow.watch(), 2);
    }

    private static void judge() {
        ManholeBirths x = told(RING);
        due("a step", x.judge(1, 0), NONE);
        due("four steps", x.judge(4, 0), NONE);
        due("a step of no kind", x.judge(1, 1), 0);
        due("shut", x.judge(1, 13), NONE);
        due("no such pipe", x.judge(1, 14), 0);
        due("it is open", x.judge(1, 20), 0);
        due("no such pipe to open", x.judge(2, 1424), 0);
        due("shut twice", x.judge(2, 1010), 1);
        due("shut, opened, shut", x.judge(3, 102010), NONE);
        due("sealed", x.judge(2, 3131), NONE);
        due("no lid", x.judge(1, 30), 0);
        due("no such joint", x.judge(1, 34), 0);
        due("called", x.judge(1, 41), NONE);
        due("no such walker", x.judge(1, 42), 0);
        due("called before it is out", x.judge(3, 41), NONE);
        due("called when it is out", x.judge(4, 41), 3);
        due("called when it is not out yet", x.judge(4, 40), NONE);
        for (int kind = 5; kind <= 9; kind++) due("no such doing", x.judge(2, 10 * kind), 1);
        due("the first that can not be", x.judge(4, 99990000), 0);
        for (int n : new int[] {0, 5, -1, LEAST, MOST}) due("judge", x.judge(n, 0), OUTSIDE);
        due("too many figures", x.judge(1, 100), OUTSIDE);
        due("too many figures", x.judge(1, 10000), OUTSIDE);
        due("too many figures", x.judge(2, 10000), OUTSIDE);
        due("too many figures", x.judge(3, 1000000), OUTSIDE);
        due("too many figures", x.judge(4, 100000000), OUTSIDE);
        due("as many as can be", x.judge(4, 99999999), 0);
        for (int row : new int[] {-1, LEAST, MOST}) due("judge", x.judge(4, row), OUTSIDE);
        due("nothing is changed", x.count(4), 0);
        due("nothing is changed", x.count(8), 0);
        x.shut(0);
        due("from where things stand", x.judge(1, 10), 0);
        due("from where things stand", x.judge(1, 20), NONE);
        String eight = "B00J00J00J00J00J00J01P01P12P23P34P45P50P02P13";
        due("the last pipe", told(eight).judge(2, 1727), NONE);
        due("the last joint", told(eight).judge(1, 35), NONE);
        doingsTellOnLaterOnes();
    }

    private static void doingsTellOnLaterOnes() {
        ManholeBirths x = told(RING);
        steps(x, 2);
        due("a step, and 1 is out", x.judge(2, 41), 1);
        due("its lid sealed, it is not", x.judge(3, 310041), NONE);
        due("its lid sealed and not any more", x.judge(4, 31310041), 3);
        due("its pipe shut", x.judge(3, 110041), NONE);
        x.step();
        due("a step, and 0 is out", x.judge(2, 40), 1);
        due("called, it is not", x.judge(3, 400040), NONE);
        due("who is out", x.judge(1, 41), 0);
    }

    private static void hear() {
        ManholeBirths x = told(RING);
        for (int w : new int[] {-1, 2, LEAST, MOST}) due("hear", x.hear(w, 0, 1), UNKNOWN);
        for (int j : new int[] {-1, 4, LEAST, MOST}) due("hear", x.hear(0, j, 1), UNKNOWN);
        for (int n : new int[] {0, 10, LEAST, MOST}) due("hear", x.hear(0, 0, n), OUTSIDE);
        due("unknown ahead of outside", x.hear(0, 4, 0), UNKNOWN);
        due("none", x.count(9), 0);
        for (int i = 1; i <= 6; i++) due("hear", x.hear(1, 3, i % 2 == 0 ? 9 : 1), i);
        due("full", x.hear(0, 0, 1), FULL);
        due("outside ahead of full", x.hear(0, 0, 0), OUTSIDE);
        due("unknown ahead of full", x.hear(2, 0, 1), UNKNOWN);
        due("six", x.count(9), 6);
        due("no act", x.count(8), 0);
    }

    private static void unhear() {
        ManholeBirths x = told(STAR);
        due("nothing", x.unhear(), 0);
        x.hear(0, 0, 1);
        x.hear(0, 0, 2);
        due("none turns so", x.turning(0), 0);
        due("two", x.unhear(), 2);
        due("none", x.count(9), 0);
        due("all turn so", x.turning(0), 15);
        due("one", x.hear(0, 2, 1), 1);
        due("down", x.turning(0), 2);
    }

    private static void turning() {
        ManholeBirths x = told(STAR);
        due("nothing was heard", x.turning(0), 15);
        x.hear(0, 3, 1);
        due("up, back", x.turning(0), 9);
        x.hear(0, 0, 2);
        due("all come back", x.turning(0), 9);
        x.hear(0, 1, 3);
        due("up alone", x.turning(0), 1);
        x.hear(0, 2, 3);
        due("not at two joints", x.turning(0), 0);
        x.unhear();
        x.hear(0, 0, 9);
        due("never in the middle behind 9", x.turning(0), 0);
        x.unhear();
        x.hear(0, 1, 1);
        due("round", x.turning(0), 4);
        x.step();
        due("from now: it is back in one step", x.turning(0), 0);
        x.undo();
        due("nothing is changed", x.walker(0, 3), 0);
        for (int w : new int[] {-1, 1, LEAST, MOST}) due("turning", x.turning(w), UNKNOWN);
        ManholeBirths ring = told(RING);
        ring.hear(1, 1, 9);
        due("where it came out", ring.turning(1), 15);
        due("of another nothing was heard", ring.turning(0), 15);
        steps(ring, 3);
        due("out", ring.turning(1), STATE);
        heardOfWhatIsGone();
    }

    private static void heardOfWhatIsGone() {
        ManholeBirths x = told(STAR + "W0900");
        x.hear(0, 3, 1);
        x.hear(0, 2, 2);
        x.hear(1, 2, 1);
        x.wipe();
        write(x, "B00J50J00P01W0900");
        due("net", x.net(), 211);
        due("there is no joint 2 or 3 any more", x.turning(0), 15);
        due("heard is kept", x.count(9), 3);
        x.unhear();
        x.hear(0, 1, 1);
        due("there is a joint 1", x.turning(0), 15);
        x.hear(0, 1, 2);
        due("it is not there then", x.turning(0), 0);
        x.unhear();
        x.wipe();
        write(x, STAR);
        x.net();
        x.hear(0, 3, 1);
        x.wipe();
        write(x, "B00");
        due("net", x.net(), 0);
        due("nobody", x.turning(0), UNKNOWN);
        x.wipe();
        write(x, STAR);
        x.net();
        due("there is one again, and what was heard of it", x.turning(0), 9);
    }

    private static void shareIs(String what, ManholeBirths x, int walker, int above, int below) {
        due(what + ", above", x.share(walker, true), above);
        due(what + ", below", x.share(walker, false), below);
    }

    private static void share() {
        ManholeBirths x = told(RIVALS);
        shareIs("half a lid", x, 0, 1, 2);
        shareIs("half a lid", x, 1, 1, 2);
        for (int w : new int[] {-1, 2, LEAST, MOST}) {
            due("share", x.share(w, true), UNKNOWN);
            due("share", x.share(w, false), UNKNOWN);
        }
        due("nothing is changed", x.count(4), 0);
        x.step();
        shareIs("it is right now", x, 0, 1, 1);
        shareIs("the lid is gone", x, 1, 0, 1);
        x.seal(1);
        shareIs("the lid is there again", x, 1, 1, 1);
        ManholeBirths three = told(RIVALS + "W0101");
        for (int w = 0; w < 3; w++) shareIs("a third", three, w, 1, 3);
        ManholeBirths four = told(RIVALS + "W0101W0101");
        for (int w = 0; w < 4; w++) shareIs("a fourth", four, w, 1, 4);
        // Walker 0 takes the lid that is not its own.
        ManholeBirths thief = told("B00J00J11P01W0100W0101");
        shareIs("below 0", thief, 0, -1, 2);
        shareIs("what is left", thief, 1, 1, 2);
        // Of three orders in six the thief is ahead; the two rivals share what it leaves: 1/2 - 1/6 each.
        ManholeBirths both = told("B00J00J11P01W0100W0101W0101");
        shareIs("two thirds less", both, 0, -2, 3);
        shareIs("a third", both, 1, 1, 3);
        shareIs("a third", both, 2, 1, 3);
        ManholeBirths alone = told("B00J00J11P01W0101");
        shareIs("all", alone, 0, 1, 1);
        twentySteps();
    }

    /** One comes up in 20 steps, just in time, another one in 21. */
    private static void twentySteps() {
        shareIs("in 20", told("B91J90J10J11P01P12W0912"), 0, 1, 1);
        shareIs("in more", told("B09J81J70J50P10P12W1920"), 0, 0, 1);
    }

    private static void rests() {
        ManholeBirths x = told(RING);
        due("two", x.rests(0, 1, 0), 2);
        due("the first", x.rests(0, 1, 1), 12);
        due("the other way", x.rests(1, 0, 1), 12);
        for (int w : new int[] {-1, 2, LEAST, MOST}) {
            due("rests", x.rests(w, 0, 0), UNKNOWN);
            due("rests", x.rests(0, w, 0), UNKNOWN);
            due("rests", x.rests(w, w, 0), UNKNOWN);
        }
        due("both are one", x.rests(1, 1, 0), OUTSIDE);
        for (int what : new int[] {-1, 2, LEAST, MOST}) due("rests", x.rests(0, 1, what), OUTSIDE);
        due("nothing is changed", x.count(4), 0);
        ManholeBirths none = told(STAR + "W0900");
        due("no lids", none.rests(0, 1, 0), 0);
        due("no lids", none.rests(0, 1, 1), NONE);
        // Walker 0 is out at 1, walker 1 nowhere; with one lid both must stand there.
        ManholeBirths rivals = told(RIVALS);
        due("one lid", rivals.rests(0, 1, 0), 1);
        due("one lid", rivals.rests(0, 1, 1), 11);
        // Two more lids that nobody comes up by: at 1 the second mother has 2, less 1, and that is best.
        ManholeBirths more = told("B00J00J11J01J01P01W0101W0101");
        due("three lids", more.rests(0, 1, 0), 1);
        due("three lids", more.rests(1, 0, 1), 11);
        // Nobody comes up: each is content where the other is not.
        ManholeBirths idle = told("B00J01J01W0100W1101");
        due("apart", idle.rests(0, 1, 0), 2);
        due("apart", idle.rests(0, 1, 1), 1);
        // A lid opened again: both come up at 1.
        more.step();
        more.seal(1);
        due("both at one", more.rests(0, 1, 0), 1);
        due("both at one", more.rests(0, 1, 1), 11);
    }

    private static void floodIs(ManholeBirths x, int n, int tenths, int above, int below) {
        due("flood(0, " + n + ", " + tenths + ") above", x.flood(0, n, tenths, true), above);
        due("flood(0, " + n + ", " + tenths + ") below", x.flood(0, n, tenths, false), below);
    }

    private static void flood() {
        // It comes up as soon as one tide is low.
        ManholeBirths x = told("B52J90J31P01W0101");
        floodIs(x, 1, 3, 7, 10);
        floodIs(x, 2, 5, 3, 4);
        floodIs(x, 3, 10, 0, 1);
        floodIs(x, 6, 0, 1, 1);
        floodIs(x, 6, 1, 999999, 1000000);
        floodIs(x, 4, 8, 369, 625);
        floodIs(x, 6, 9, 468559, 1000000);
        due("nothing is changed", x.count(4), 0);
        for (int w : new int[] {-1, 1, LEAST, MOST}) {
            due("flood", x.flood(w, 1, 0, true), UNKNOWN);
            due("flood", x.flood(w, 1, 0, false), UNKNOWN);
        }
        for (int n : new int[] {0, 7, LEAST, MOST}) due("flood", x.flood(0, n, 0, true), OUTSIDE);
        for (int tenths : new int[] {-1, 11, LEAST, MOST}) due("flood", x.flood(0, 1, tenths, false), OUTSIDE);
        due("unknown ahead of outside", x.flood(1, 0, 0, true), UNKNOWN);
        steps(x, 3);
        due("it is out", x.count(6), 1);
        floodIs(x, 1, 10, 1, 1);
        // Two low tides must follow each other: a high one between them drives it back.
        ManholeBirths two = told("B52J90J30J31P01P12W0202");
        floodIs(two, 2, 5, 1, 4);
        floodIs(two, 3, 5, 3, 8);
        // High water helps: at low tide it turns down, to where no lid is.
        ManholeBirths up = told("B52J90J61J30P01P02W0111");
        floodIs(up, 1, 3, 3, 10);
    }

    private static void seed() {
        ManholeBirths x = new ManholeBirths();
        due("at first", x.seed(Long.MIN_VALUE), 0);
        due("then", x.seed(Long.MAX_VALUE), Long.MIN_VALUE);
        due("then", x.seed(-9), Long.MAX_VALUE);
        x.years(1);
        due("after years", x.seed(0), drawn(-9, 1).longValue());
        due("no act", x.count(8), 0);
    }

    private static BigInteger drawn(long seed, int times) {
        BigInteger x = BigInteger.valueOf(seed);
        for (int i = 0; i < times; i++) {
            x = x.multiply(new BigInteger("6364136223846793005")).add(new BigInteger("1442695040888963407"));
        }
        return x.mod(BigInteger.TWO.pow(64));
    }

    private static int leftBy14(long seed, int times) {
        return drawn(seed, times).shiftRight(33).mod(BigInteger.valueOf(14)).intValue();
    }

    private static void years() {
        ManholeBirths x = told("B00J00J11P01W0101");
        x.seed(2);
        for (int m : new int[] {0, 31, -1, LEAST, MOST}) due("years", x.years(m), OUTSIDE);
        due("a refusal draws nothing", x.seed(0), 2);
        boolean[] seen = new boolean[14];
        for (long seed = -40; seed < 40; seed++) {
            int left = leftBy14(seed, 1);
            seen[left] = true;
            x.seed(seed);
            due("years(1) by " + seed, x.years(1), left >= 8 ? 1 : 0);
            due("seed", x.seed(0), drawn(seed, 1).longValue());
            // A second draw is a step through an open pipe, or the first one was.
            int then = leftBy14(seed, 2);
            x.seed(seed);
            due("years(2) by " + seed, x.years(2), left >= 8 || left != 0 && then >= 8 ? 1 : 0);
            due("seed", x.seed(0), drawn(seed, 2).longValue());
        }
        for (int left = 0; left < 14; left++) due("seeds for " + left, seen[left] ? 1 : 0, 1);
        // What an object answers behind 512 calls is free.
        x = told("B00J00J11P01W0101");
        x.seed(1);
        x.years(30);
        due("seed of 30", x.seed(0), drawn(1, 30).longValue());
        due("nothing is changed", x.count(4) + x.count(8) + x.count(6), 0);
        due("nothing is changed", x.pipe(0, 2), 1);
        x.step();
        due("right already", x.years(30), 1);
        due("nobody", new ManholeBirths().years(30), 0);
        ManholeBirths ring = told(RING);
        steps(ring, 4);
        due("how many, not bits; out is not right", ring.years(1), 1);
    }

    private static void keep() {
        ManholeBirths x = told(RING);
        for (int slot : new int[] {-1, 2, LEAST, MOST}) due("keep", x.keep(slot), UNKNOWN);
        due("keep", x.keep(0), 0);
        steps(x, 3);
        due("keep", x.keep(1), 3);
        due("keeping is no act", x.count(8), 3);
        x.step();
        due("keep over it", x.keep(0), 4);
        due("slot 1 stays", x.again(1), 3);
        due("slot 0 is anew", x.again(0), 4);
    }

    private static void again() {
        ManholeBirths x = told(RING);
        for (int slot : new int[] {-1, 2, LEAST, MOST}) due("again", x.again(slot), UNKNOWN);
        due("none", x.again(0), STATE);
        due("none", x.again(1), STATE);
        steps(x, 3);
        x.shut(2);
        x.seal(3);
        x.keep(1);
        x.shut(2);
        x.seal(3);
        x.call(0);
        x.step();
        x.hear(0, 0, 1);
        x.seed(5);
        due("again", x.again(1), 3);
        due("clock", x.count(4), 3);
        due("out", x.count(6), 2);
        due("pipe", x.pipe(2, 2), 0);
        due("lid", x.joint(3, 2), 1);
        due("lid", x.joint(2, 2), 0);
        walkerIs("again", x, 0, 1, 0, 1, 1, 2, 0, 2, 2);
        due("acts", x.count(8), 0);
        due("undo", x.undo(), STATE);
        due("heard stays", x.count(9), 1);
        due("seed stays", x.seed(0), 5);
        due("it goes on", x.step(), 1);
        due("kept still", x.again(1), 3);
        due("the other one", x.again(0), STATE);
        due("acts", x.count(8), 0);
    }

    private static void count() {
        ManholeBirths x = told(RING);
        x.hear(0, 0, 1);
        x.hear(0, 0, 2);
        int[] first = {RING.length(), 4, 4, 2, 0, 5, 0, 0, 0, 2};
        for (int what = 0; what < 10; what++) due("count(" + what + ")", x.count(what), first[what]);
        steps(x, 3);
        int[] third = {RING.length(), 4, 4, 2, 3, 2, 2, 0, 3, 2};
        for (int what = 0; what < 10; what++) due("third count(" + what + ")", x.count(what), third[what]);
        x.step();
        due("tide", x.count(5), 5);
        due("out", x.count(6), 3);
        due("right", x.count(7), 1);
        x.step();
        due("tide", x.count(5), 5);
        x.step();
        due("tide", x.count(5), 2);
        for (int what : new int[] {-1, 10, LEAST, MOST}) due("count", x.count(what), OUTSIDE);
    }
}
