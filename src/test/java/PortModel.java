import java.math.BigInteger;
import java.util.ArrayDeque;
import java.util.ArrayList;
import java.util.Collections;
import java.util.HashMap;
import java.util.HashSet;
import java.util.List;
import java.util.Map;
import java.util.Set;
import java.util.TreeSet;
import java.util.function.IntPredicate;
import java.util.regex.Matcher;
import java.util.regex.Pattern;

/**
 * The document told once more, by other means than the class uses (sets, lists, regular expressions,
 * all orders written out), so that a slip in one of the two shows as a difference.
 */
final class PortModel {
    static final int UNKNOWN = -1, OUTSIDE = -2, STATE = -3, FULL = -4, NONE = -9;

    record Joint(int level, boolean lid) {}
    record Pipe(int one, int other) {}
    record Walker(int start, int least, int turns, int own) {}
    record Net(int high, int low, List<Joint> joints, List<Pipe> pipes, List<Walker> walkers) {}
    record Sound(int walker, int joint, int steps) {}

    /** Never changed; each act makes a new one. */
    record World(List<Integer> at, List<Integer> from, List<Integer> gone, Set<Integer> out,
                 Set<Integer> shut, Set<Integer> sealed, int clock) {}

    private final StringBuilder text = new StringBuilder();
    private Net net = new Net(0, 0, List.of(), List.of(), List.of());
    private World world = fresh(net);
    private final ArrayDeque<World> row = new ArrayDeque<>();
    private final Map<Integer, World> slots = new HashMap<>();
    private final List<Sound> heard = new ArrayList<>();
    private BigInteger seed = BigInteger.ZERO;

    private static World fresh(Net net) {
        List<Integer> at = new ArrayList<>();
        for (Walker w : net.walkers) at.add(w.start);
        int n = at.size();
        return new World(at, Collections.nCopies(n, NONE), Collections.nCopies(n, 0),
            Set.of(), Set.of(), Set.of(), 0);
    }

    // ---- the net

    int write(int letter) {
        if (letter < 0 || letter > 255) return OUTSIDE;
        if (text.length() == 60) return FULL;
        text.append((char) letter);
        return text.length();
    }

    int wipe() {
        int was = text.length();
        text.setLength(0);
        return was;
    }

    private static final Pattern PART = Pattern.compile("J([0-9])([01])|P([0-9])([0-9])|W([0-9])([1-9])([0-3])([0-9])");
    private static final Pattern WHOLE = Pattern.compile("B([0-9])([0-9])((?:" + PART.pattern().replace("(", "(?:") + ")*)");

    /** The net that a text tells, or null. */
    static Net parse(String text) {
        Matcher whole = WHOLE.matcher(text);
        if (!whole.matches()) return null;
        Net net = new Net(Integer.parseInt(whole.group(1)), Integer.parseInt(whole.group(2)),
            new ArrayList<>(), new ArrayList<>(), new ArrayList<>());
        Set<Set<Integer>> pairs = new HashSet<>();
        Matcher part = PART.matcher(whole.group(3));
        while (part.find()) {
            int known = net.joints.size();
            if (part.group(1) != null) {
                net.joints.add(new Joint(num(part, 1), num(part, 2) == 1));
            } else if (part.group(3) != null) {
                int i = num(part, 3), j = num(part, 4);
                if (i == j || i >= known || j >= known || !pairs.add(Set.of(i, j))) return null;
                net.pipes.add(new Pipe(i, j));
            } else {
                if (num(part, 5) >= known || num(part, 8) >= known) return null;
                net.walkers.add(new Walker(num(part, 5), num(part, 6), num(part, 7), num(part, 8)));
            }
        }
        boolean few = net.joints.size() <= 6 && net.pipes.size() <= 8 && net.walkers.size() <= 4;
        return few ? net : null;
    }

    private static int num(Matcher m, int group) {
        return Integer.parseInt(m.group(group));
    }

    /** Whether some few figures make the text a net; no part lacks more than four. */
    private static boolean canBecomeNet(String text, int figures) {
        if (parse(text) != null) return true;
        if (figures == 0) return false;
        for (char c = '0'; c <= '9'; c++) {
            if (canBecomeNet(text + c, figures - 1)) return true;
        }
        return false;
    }

    int fault() {
        String all = text.toString();
        for (int i = 0; i < all.length(); i++) {
            if (parse(all.substring(0, i + 1)) != null) continue;
            String start = all.substring(0, i + 1);
            if (!(start.equals("B") || canBecomeNet(start, 4))) return i;
        }
        return parse(all) != null ? NONE : all.length();
    }

    int net() {
        Net told = parse(text.toString());
        if (told == null) return STATE;
        net = told;
        world = fresh(net);
        row.clear();
        slots.clear();
        return 100 * net.joints.size() + 10 * net.pipes.size() + net.walkers.size();
    }

    private boolean noJoint(int j) { return j < 0 || j >= net.joints.size(); }
    private boolean noPipe(int p) { return p < 0 || p >= net.pipes.size(); }
    private boolean noWalker(int w) { return w < 0 || w >= net.walkers.size(); }

    private static int bits(Iterable<Integer> set) {
        int bits = 0;
        for (int i : set) bits += 1 << i;
        return bits;
    }

    private static int one(boolean is) { return is ? 1 : 0; }

    private Set<Integer> beside(World w, int joint) {
        Set<Integer> found = new TreeSet<>();
        for (int p = 0; p < net.pipes.size(); p++) {
            if (w.shut.contains(p)) continue;
            Pipe pipe = net.pipes.get(p);
            if (pipe.one == joint) found.add(pipe.other);
            if (pipe.other == joint) found.add(pipe.one);
        }
        return found;
    }

    private int tide(int clock) { return clock % 4 == 0 || clock % 4 == 1 ? net.high : net.low; }

    int joint(int joint, int what) {
        if (noJoint(joint)) return UNKNOWN;
        Joint j = net.joints.get(joint);
        return switch (what) {
            case 0 -> j.level;
            case 1 -> one(j.lid);
            case 2 -> one(world.sealed.contains(joint));
            case 3 -> one(j.level < tide(world.clock));
            case 4 -> bits(beside(world, joint));
            default -> OUTSIDE;
        };
    }

    int pipe(int pipe, int what) {
        if (noPipe(pipe)) return UNKNOWN;
        return switch (what) {
            case 0 -> net.pipes.get(pipe).one;
            case 1 -> net.pipes.get(pipe).other;
            case 2 -> one(!world.shut.contains(pipe));
            default -> OUTSIDE;
        };
    }

    int walker(int walker, int what) {
        if (noWalker(walker)) return UNKNOWN;
        Walker w = net.walkers.get(walker);
        return switch (what) {
            case 0 -> world.at.get(walker);
            case 1 -> world.from.get(walker);
            case 2 -> Math.min(9, world.gone.get(walker));
            case 3 -> w.turns;
            case 4 -> w.own;
            case 5 -> one(world.out.contains(walker));
            case 6 -> world.out.contains(walker) ? NONE : next(world, walker, w.turns, tide(world.clock));
            case 7 -> w.least;
            default -> OUTSIDE;
        };
    }

    private int next(World w, int walker, int turns, int tide) {
        int own = w.at.get(walker);
        List<Integer> may = new ArrayList<>(beside(w, own));
        may.removeIf(j -> net.joints.get(j).level < tide);
        if (may.size() > 1) may.remove(w.from.get(walker));
        int n = net.joints.size();
        // Sorting keeps like ones in the order of their numbers.
        switch (turns) {
            case 0 -> may.sort((a, b) -> net.joints.get(b).level - net.joints.get(a).level);
            case 1 -> may.sort((a, b) -> net.joints.get(a).level - net.joints.get(b).level);
            case 2 -> may.sort((a, b) -> Math.floorMod(a - own, n) - Math.floorMod(b - own, n));
            default -> may.sort((a, b) -> Math.floorMod(own - a, n) - Math.floorMod(own - b, n));
        }
        return may.isEmpty() ? NONE : may.get(0);
    }

    // ---- acts

    /** A step with a tide, of the walkers that are there, one of whom may turn otherwise (or -1). */
    private World stepped(World w, int tide, IntPredicate isThere, int turner, int turn) {
        List<Integer> at = new ArrayList<>(w.at), from = new ArrayList<>(w.from), gone = new ArrayList<>(w.gone);
        Set<Integer> out = new TreeSet<>(w.out), sealed = new TreeSet<>(w.sealed);
        for (int i = 0; i < at.size(); i++) {
            if (w.out.contains(i) || !isThere.test(i)) continue;
            Walker walker = net.walkers.get(i);
            int next = next(w, i, i == turner ? turn : walker.turns, tide);
            if (next != NONE) {
                from.set(i, at.get(i));
                at.set(i, next);
                gone.set(i, gone.get(i) + 1);
            }
            int here = at.get(i);
            if (gone.get(i) >= walker.least && net.joints.get(here).lid && sealed.add(here)) out.add(i);
        }
        return new World(at, from, gone, out, w.shut, sealed, w.clock + 1);
    }

    private World stepped(World w) {
        return stepped(w, tide(w.clock), i -> true, -1, 0);
    }

    private World stepped(World w, int times) {
        for (int i = 0; i < times; i++) w = stepped(w);
        return w;
    }

    private static Set<Integer> turned(Set<Integer> set, int i) {
        Set<Integer> other = new TreeSet<>(set);
        if (!other.add(i)) other.remove(i);
        return other;
    }

    private static World withPipe(World w, int pipe) {
        return new World(w.at, w.from, w.gone, w.out, turned(w.shut, pipe), w.sealed, w.clock);
    }

    private static World withLid(World w, int joint) {
        return new World(w.at, w.from, w.gone, w.out, w.shut, turned(w.sealed, joint), w.clock);
    }

    private static World withCalled(World w, int walker) {
        List<Integer> from = new ArrayList<>(w.from), gone = new ArrayList<>(w.gone);
        from.set(walker, NONE);
        gone.set(walker, 0);
        return new World(w.at, from, gone, w.out, w.shut, w.sealed, w.clock);
    }

    private void act(World then) {
        row.addLast(world);
        if (row.size() > 14) row.removeFirst();
        world = then;
    }

    int step() {
        Set<Integer> came = new TreeSet<>(stepped(world).out);
        came.removeAll(world.out);
        act(stepped(world));
        return bits(came);
    }

    int shut(int pipe) {
        if (noPipe(pipe)) return UNKNOWN;
        act(withPipe(world, pipe));
        return pipe(pipe, 2);
    }

    int seal(int joint) {
        if (noJoint(joint)) return UNKNOWN;
        if (!net.joints.get(joint).lid) return STATE;
        act(withLid(world, joint));
        return joint(joint, 2);
    }

    int call(int walker) {
        if (noWalker(walker)) return UNKNOWN;
        if (world.out.contains(walker)) return STATE;
        int gone = walker(walker, 2);
        act(withCalled(world, walker));
        return gone;
    }

    int undo() {
        if (row.isEmpty()) return STATE;
        world = row.removeLast();
        return row.size();
    }

    // ---- who comes up

    private Set<Integer> right(World w) {
        Set<Integer> right = new TreeSet<>(w.out);
        right.removeIf(i -> w.at.get(i) != net.walkers.get(i).own);
        return right;
    }

    int ahead(int n, int what) {
        if (n < 0 || n > 30 || what < 0 || what > 1) return OUTSIDE;
        World then = stepped(world, n);
        return bits(what == 0 ? then.out : right(then));
    }

    int comes(int walker, int what) {
        if (noWalker(walker)) return UNKNOWN;
        if (what != 0 && what != 1) return OUTSIDE;
        for (int n = 0; n <= 40; n++) {
            World then = stepped(world, n);
            if (then.out.contains(walker)) return what == 0 ? n : then.at.get(walker);
        }
        return NONE;
    }

    int way(int joint, int other) {
        if (noJoint(joint) || noJoint(other)) return UNKNOWN;
        int[] far = new int[net.joints.size()];
        java.util.Arrays.fill(far, 99);
        far[joint] = 0;
        for (int round = 0; round < far.length; round++) {
            for (int j = 0; j < far.length; j++) {
                for (int k : beside(world, j)) far[k] = Math.min(far[k], far[j] + 1);
            }
        }
        return far[other] >= 99 ? NONE : far[other];
    }

    int mend(int walker) {
        if (noWalker(walker)) return UNKNOWN;
        if (world.out.contains(walker)) return STATE;
        for (int p = 0; p < net.pipes.size(); p++) {
            if (right(stepped(withPipe(world, p), 40)).contains(walker)) return p;
        }
        return NONE;
    }

    int watch() {
        for (int size = 0; size <= 6; size++) {
            for (int joints = 0; joints < 64; joints++) {
                if (Integer.bitCount(joints) == size && watchesAll(joints)) return joints;
            }
        }
        throw new IllegalStateException("all joints watch all");
    }

    private boolean watchesAll(int joints) {
        for (int w = 0; w < net.walkers.size(); w++) {
            boolean seen = world.out.contains(w);
            for (int n = 0; n <= 8; n++) seen |= (joints >> stepped(world, n).at.get(w) & 1) == 1;
            if (!seen) return false;
        }
        return true;
    }

    int judge(int n, int row) {
        if (n < 1 || n > 4 || row < 0 || String.valueOf(row).length() > 2 * n) return OUTSIDE;
        String told = "0".repeat(2 * n - String.valueOf(row).length()) + row;
        World then = world;
        for (int place = 0; place < n; place++) {
            then = done(then, told.charAt(2 * place) - '0', told.charAt(2 * place + 1) - '0');
            if (then == null) return place;
        }
        return NONE;
    }

    private World done(World w, int kind, int which) {
        if (kind == 0 && which == 0) return stepped(w);
        if (kind == 1 && !noPipe(which) && !w.shut.contains(which)) return withPipe(w, which);
        if (kind == 2 && !noPipe(which) && w.shut.contains(which)) return withPipe(w, which);
        if (kind == 3 && !noJoint(which) && net.joints.get(which).lid) return withLid(w, which);
        if (kind == 4 && !noWalker(which) && !w.out.contains(which)) return withCalled(w, which);
        return null;
    }

    // ---- heard

    int hear(int walker, int joint, int n) {
        if (noWalker(walker) || noJoint(joint)) return UNKNOWN;
        if (n < 1 || n > 9) return OUTSIDE;
        if (heard.size() == 6) return FULL;
        heard.add(new Sound(walker, joint, n));
        return heard.size();
    }

    int unhear() {
        int was = heard.size();
        heard.clear();
        return was;
    }

    int turning(int walker) {
        if (noWalker(walker)) return UNKNOWN;
        if (world.out.contains(walker)) return STATE;
        int bits = 0;
        for (int turn = 0; turn < 4; turn++) {
            boolean so = true;
            for (Sound s : heard) {
                if (s.walker != walker || noJoint(s.joint)) continue;
                World then = world;
                for (int i = 0; i < s.steps; i++) then = stepped(then, tide(then.clock), k -> true, walker, turn);
                so &= then.at.get(walker) == s.joint;
            }
            if (so) bits |= 1 << turn;
        }
        return bits;
    }

    // ---- shares, rests, chances

    private static int told(BigInteger above, BigInteger below, boolean upper) {
        BigInteger common = above.gcd(below);
        return (upper ? above : below).divide(common).intValueExact();
    }

    private int rightIf(Set<Integer> come) {
        World then = world;
        for (int i = 0; i < 20; i++) then = stepped(then, tide(then.clock), come::contains, -1, 0);
        Set<Integer> right = right(then);
        right.retainAll(come);
        return right.size();
    }

    int share(int walker, boolean upper) {
        if (noWalker(walker)) return UNKNOWN;
        List<List<Integer>> orders = new ArrayList<>();
        orders(new ArrayList<>(), orders);
        long sum = 0;
        for (List<Integer> order : orders) {
            Set<Integer> before = new HashSet<>(order.subList(0, order.indexOf(walker)));
            int less = rightIf(before);
            before.add(walker);
            sum += rightIf(before) - less;
        }
        return told(BigInteger.valueOf(sum), BigInteger.valueOf(orders.size()), upper);
    }

    private void orders(List<Integer> start, List<List<Integer>> found) {
        if (start.size() == net.walkers.size()) found.add(new ArrayList<>(start));
        for (int w = 0; w < net.walkers.size(); w++) {
            if (start.contains(w)) continue;
            start.add(w);
            orders(start, found);
            start.remove(start.size() - 1);
        }
    }

    int rests(int one, int other, int what) {
        if (noWalker(one) || noWalker(other)) return UNKNOWN;
        if (one == other || what < 0 || what > 1) return OUTSIDE;
        World then = stepped(world, 40);
        List<Integer> lids = new ArrayList<>();
        for (int j = 0; j < net.joints.size(); j++) if (net.joints.get(j).lid) lids.add(j);
        List<Integer> rests = new ArrayList<>();
        for (int a : lids) {
            for (int b : lids) {
                boolean rest = true;
                for (int c : lids) {
                    rest &= has(then, one, other, c, b) <= has(then, one, other, a, b);
                    rest &= has(then, other, one, c, a) <= has(then, other, one, b, a);
                }
                if (rest) rests.add(10 * a + b);
            }
        }
        if (what == 0) return rests.size();
        return rests.isEmpty() ? NONE : rests.get(0);
    }

    private static int has(World then, int own, int other, int stands, int otherStands) {
        int has = 0;
        if (then.out.contains(own) && then.at.get(own) == stands) has += 3;
        if (then.out.contains(other) && then.at.get(other) == stands) has += 2;
        return stands == otherStands ? has - 1 : has;
    }

    int flood(int walker, int n, int x, boolean upper) {
        if (noWalker(walker)) return UNKNOWN;
        if (n < 1 || n > 6 || x < 0 || x > 10) return OUTSIDE;
        return told(flooded(world, walker, n, x), BigInteger.TEN.pow(n), upper);
    }

    private BigInteger flooded(World w, int walker, int left, int x) {
        if (left == 0) return w.out.contains(walker) ? BigInteger.ONE : BigInteger.ZERO;
        BigInteger high = flooded(stepped(w, net.high, i -> true, -1, 0), walker, left - 1, x);
        BigInteger low = flooded(stepped(w, net.low, i -> true, -1, 0), walker, left - 1, x);
        return high.multiply(BigInteger.valueOf(x)).add(low.multiply(BigInteger.valueOf(10 - x)));
    }

    long seed(long v) {
        long was = seed.longValue();
        seed = BigInteger.valueOf(v);
        return was;
    }

    int years(int m) {
        if (m < 1 || m > 30) return OUTSIDE;
        World then = world;
        for (int i = 0; i < m; i++) {
            seed = seed.multiply(new BigInteger("6364136223846793005")).add(new BigInteger("1442695040888963407"))
                .mod(BigInteger.TWO.pow(64));
            int drawn = seed.divide(BigInteger.TWO.pow(33)).mod(BigInteger.valueOf(14)).intValueExact();
            if (drawn >= 8) then = stepped(then);
            else if (!noPipe(drawn)) then = withPipe(then, drawn);
        }
        return right(then).size();
    }

    // ---- slots

    int keep(int slot) {
        if (slot != 0 && slot != 1) return UNKNOWN;
        slots.put(slot, world);
        return world.clock;
    }

    int again(int slot) {
        if (slot != 0 && slot != 1) return UNKNOWN;
        if (!slots.containsKey(slot)) return STATE;
        world = slots.get(slot);
        row.clear();
        return world.clock;
    }

    int count(int what) {
        return switch (what) {
            case 0 -> text.length();
            case 1 -> net.joints.size();
            case 2 -> net.pipes.size();
            case 3 -> net.walkers.size();
            case 4 -> world.clock;
            case 5 -> tide(world.clock);
            case 6 -> bits(world.out);
            case 7 -> bits(right(world));
            case 8 -> row.size();
            case 9 -> heard.size();
            default -> OUTSIDE;
        };
    }
}
