import com.sun.management.ThreadMXBean;
import java.lang.management.ManagementFactory;

/** Calls make no objects: all that is used is made with the object, and that is little. */
public final class Room {
    private static final String[] NETS = {
        "B52J60J31J81J11P01P12P23P30W0212W2100W1321W3130", "B00J00J11P01W0101W0101", "B00", "Q",
    };
    private static final int ROUNDS = 200, MOST_BYTES_AN_OBJECT = 12000;

    private static final ThreadMXBean THREADS = (ThreadMXBean) ManagementFactory.getThreadMXBean();

    private static long sum = 0;

    private static long allocated() {
        return THREADS.getCurrentThreadAllocatedBytes();
    }

    public static void main(String[] args) {
        char[][] nets = new char[NETS.length][];
        for (int i = 0; i < nets.length; i++) nets[i] = NETS[i].toCharArray();
        ManholeBirths x = new ManholeBirths();
        // The machine makes some objects of its own, but not in every round.
        long byCalls = Long.MAX_VALUE;
        for (int i = 0; i < ROUNDS; i++) {
            long before = allocated();
            calls(x, nets);
            byCalls = Math.min(byCalls, allocated() - before);
        }
        long before = allocated();
        for (int i = 0; i < 100; i++) sum += new ManholeBirths().count(0);
        long anObject = (allocated() - before) / 100;
        System.out.println("by calls " + byCalls + " bytes, an object " + anObject + " bytes");
        if (byCalls != 0 || anObject > MOST_BYTES_AN_OBJECT) System.exit(1);
    }

    private static void calls(ManholeBirths x, char[][] nets) {
        for (char[] net : nets) {
            x.wipe();
            for (char c : net) sum += x.write(c);
            sum += x.fault() + x.net() + x.watch() + x.unhear() + x.seed(sum);
            for (int i = -1; i < 9; i++) {
                for (int j = -1; j < 9; j++) {
                    sum += x.joint(i, j) + x.pipe(i, j) + x.walker(i, j) + x.way(i, j) + x.judge(i, j);
                    sum += x.hear(i, j, 1) + x.comes(i, j) + x.ahead(i, j) + x.rests(i, j, 0) + x.flood(i, j, 4, true);
                }
                sum += x.step() + x.shut(i) + x.seal(i) + x.call(i) + x.mend(i) + x.turning(i) + x.share(i, true);
                sum += x.years(i) + x.keep(i) + x.undo() + x.again(i) + x.count(i);
            }
            for (int i = 0; i < 20; i++) sum += x.step();
        }
    }
}
