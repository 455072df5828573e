import java.util.ArrayList;
import java.util.HashMap;
import java.util.List;
import java.util.Map;
import java.util.Random;

/** Runs of chance calls, always the same ones, answered by the class and by the model alike. */
public final class AgainstModel {
    private static final int RUNS = 400, CALLS = 512, FAULTS = 3000;
    /** Nets whose walker takes some 40 steps, for the edges that chance nets seldom come near. */
    private static final String[] SLOW = {
        "B71J40J50J60J40J50J91P02P54P21P42P41W1915", "B17J51J70J40J30J40J30P04P43P25P41P03P35P05W3910",
        "B26J30J40J30J30J91J30P21P54P01P30P25P15W3914", "B07J51J30J30J80J30J40P15P43P03P54P52P42W4910",
        "B09J30J90J50J40J81J00P03P24P43P53P52P45P12W1914", "B72J30J60J50J81J40J30P13P14P24P52P21P50W2913",
        "B91J90J10J11P01P12W0912", "B09J81J70J50P10P12W1920",
    };
    private static int wrong = 0;
    private static final Map<String, Integer> seen = new HashMap<>();

    private final Random random;
    private final ManholeBirths x = new ManholeBirths();
    private final PortModel model = new PortModel();
    private final List<String> calls = new ArrayList<>();
    private int made = 0;

    private AgainstModel(long seed) {
        random = new Random(seed);
    }

    public static void main(String[] args) {
        for (int run = 0; run < RUNS && wrong < 5; run++) new AgainstModel(run).run();
        for (int run = 0; run < FAULTS && wrong < 5; run++) new AgainstModel(1000000 + run).fault();
        System.out.println(wrong == 0 ? "class and model agree" : wrong + " runs differ");
        if (args.length > 0) seen.entrySet().stream().sorted(Map.Entry.comparingByKey()).forEach(System.out::println);
        if (wrong != 0) System.exit(1);
    }

    private void run() {
        tell(netText());
        same("net()", x.net(), model.net());
        while (made < CALLS && wrong < 5) someCall();
    }

    private void fault() {
        String text = netText();
        if (text.length() > 0 && random.nextInt(4) > 0) {
            int place = random.nextInt(text.length());
            char letter = random.nextInt(4) == 0 ? (char) random.nextInt(256) : "BJPW0123456789".charAt(random.nextInt(14));
            text = text.substring(0, place) + letter + text.substring(place + 1);
        }
        if (random.nextInt(3) == 0) text = text.substring(0, random.nextInt(text.length() + 1));
        tell(text);
        same("fault()", x.fault(), model.fault());
        same("net()", x.net(), model.net());
    }

    private void tell(String text) {
        same("wipe()", x.wipe(), model.wipe());
        for (char c : text.toCharArray()) same("write(" + (int) c + ")", x.write(c), model.write(c));
    }

    /** A text that is mostly a net; parts come in mixed order. */
    private String netText() {
        if (random.nextInt(6) == 0) return SLOW[random.nextInt(SLOW.length)] + (random.nextBoolean() ? "W0910" : "");
        return freeText();
    }

    private String freeText() {
        StringBuilder text = new StringBuilder("B").append(random.nextInt(10)).append(random.nextInt(6));
        int joints = 0, wanted = 2 + random.nextInt(5), lids = 1 + random.nextInt(3);
        while (joints < wanted) {
            text.append('J').append(random.nextInt(10)).append(random.nextInt(4) < lids ? 1 : 0);
            joints++;
        }
        boolean[][] joined = new boolean[joints][joints];
        int pipes = joints + random.nextInt(8), told = 0, walkers = 1 + random.nextInt(4);
        while (pipes + walkers > 0 && text.length() <= 55) {
            if (random.nextInt(pipes + walkers) < pipes) {
                pipes--;
                int i = random.nextInt(joints), j = random.nextInt(joints);
                if (i == j || joined[i][j] || told == 8) continue;
                told++;
                joined[i][j] = true;
                joined[j][i] = true;
                text.append('P').append(i).append(j);
            } else {
                walkers--;
                text.append('W').append(random.nextInt(joints)).append(1 + random.nextInt(random.nextInt(3) == 0 ? 9 : 3))
                    .append(random.nextInt(4)).append(random.nextInt(joints));
            }
        }
        return text.toString();
    }

    private int joint() { return oneOf(model.count(1)); }
    private int pipe() { return oneOf(model.count(2)); }
    private int walker() { return oneOf(model.count(3)); }

    private int oneOf(int many) {
        if (random.nextInt(16) == 0) return many;
        return many == 0 || random.nextInt(16) == 0 ? odd() : random.nextInt(many);
    }

    private int from(int least, int most) {
        return random.nextInt(12) == 0 ? least - 1 + (most - least + 2) * random.nextInt(2) : least + random.nextInt(most - least + 1);
    }

    private int odd() {
        int[] odd = {-1, -9, 6, 7, 8, 31, 32, 64, Integer.MIN_VALUE, Integer.MAX_VALUE};
        return odd[random.nextInt(odd.length)];
    }

    private int doings(int n) {
        int row = 0;
        for (int i = 0; i < n; i++) {
            int kind = random.nextInt(20) == 0 ? random.nextInt(10) : random.nextInt(5);
            row = 100 * row + 10 * kind + (kind == 0 && random.nextInt(9) > 0 ? 0 : random.nextInt(random.nextInt(9) == 0 ? 10 : 4));
        }
        return random.nextInt(30) == 0 ? odd() : row;
    }

    private void someCall() {
        int j = joint(), p = pipe(), w = walker(), w2 = walker(), n;
        boolean upper = random.nextBoolean();
        switch (random.nextInt(34)) {
            case 0, 1, 2, 3 -> same("step()", x.step(), model.step());
            case 4 -> same("shut(" + p + ")", x.shut(p), model.shut(p));
            case 5 -> same("seal(" + j + ")", x.seal(j), model.seal(j));
            case 6 -> same("call(" + w + ")", x.call(w), model.call(w));
            case 7, 8, 9 -> same("undo()", x.undo(), model.undo());
            case 10 -> { n = from(0, 4); same("joint(" + j + "," + n + ")", x.joint(j, n), model.joint(j, n)); }
            case 11 -> { n = from(0, 2); same("pipe(" + p + "," + n + ")", x.pipe(p, n), model.pipe(p, n)); }
            case 12, 13 -> { n = from(0, 7); same("walker(" + w + "," + n + ")", x.walker(w, n), model.walker(w, n)); }
            case 14 -> { n = from(0, 30); int t = from(0, 1); same("ahead(" + n + "," + t + ")", x.ahead(n, t), model.ahead(n, t)); }
            case 15 -> { n = from(0, 1); same("comes(" + w + "," + n + ")", x.comes(w, n), model.comes(w, n)); }
            case 16 -> { n = joint(); same("way(" + j + "," + n + ")", x.way(j, n), model.way(j, n)); }
            case 17 -> same("mend(" + w + ")", x.mend(w), model.mend(w));
            case 18 -> same("watch()", x.watch(), model.watch());
            case 19, 20 -> { n = from(1, 4); int row = doings(Math.max(1, n)); same("judge(" + n + "," + row + ")", x.judge(n, row), model.judge(n, row)); }
            case 21, 22 -> {
                n = from(1, 9);
                // Mostly what is really so, for else nothing turns as heard.
                if (w >= 0 && w < 4 && n > 0 && random.nextInt(3) > 0) j = whereLater(w, n);
                same("hear(" + w + "," + j + "," + n + ")", x.hear(w, j, n), model.hear(w, j, n));
            }
            case 23 -> { if (random.nextInt(4) == 0) same("unhear()", x.unhear(), model.unhear()); }
            case 24 -> same("turning(" + w + ")", x.turning(w), model.turning(w));
            case 25 -> same("share(" + w + "," + upper + ")", x.share(w, upper), model.share(w, upper));
            case 26 -> { n = from(0, 1); same("rests(" + w + "," + w2 + "," + n + ")", x.rests(w, w2, n), model.rests(w, w2, n)); }
            case 27 -> { n = from(1, 6); int t = from(0, 10); same("flood(" + w + "," + n + "," + t + "," + upper + ")", x.flood(w, n, t, upper), model.flood(w, n, t, upper)); }
            case 28 -> { long v = random.nextInt(3) == 0 ? random.nextInt() : random.nextLong(); same("seed(" + v + ")", x.seed(v), model.seed(v)); }
            case 29 -> { n = from(1, 30); same("years(" + n + ")", x.years(n), model.years(n)); }
            case 30 -> { n = from(0, 1); same("keep(" + n + ")", x.keep(n), model.keep(n)); }
            case 31 -> { n = from(0, 1); if (random.nextInt(3) == 0) same("again(" + n + ")", x.again(n), model.again(n)); }
            case 32 -> { n = from(0, 9); same("count(" + n + ")", x.count(n), model.count(n)); }
            default -> { if (random.nextInt(12) == 0 && made < CALLS - 70) { tell(netText()); same("net()", x.net(), model.net()); } }
        }
    }

    /** Found on a copy of the run, so that it costs the object under test no call. */
    private int whereLater(int walker, int n) {
        int at = -1;
        int undone = Math.min(n, 14 - Math.min(14, model.count(8)));
        for (int i = 0; i < undone; i++) model.step();
        at = model.walker(walker, 0);
        for (int i = 0; i < undone; i++) model.undo();
        return at < 0 ? 0 : at;
    }

    private void same(String call, long got, long want) {
        made++;
        calls.add(call + " = " + got);
        seen.merge(call.replaceAll("\\(.*", "") + (call.startsWith("seed") || got > -10 && got < -4 && got != -9 ? "" : got < 0 ? " " + got : " answered"), 1, Integer::sum);
        if (got == want) return;
        wrong++;
        System.out.println("differs, the model says " + want + " at the last of:\n  " + String.join("\n  ", calls));
    }
}
