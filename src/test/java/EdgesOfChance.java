import java.math.BigInteger;

/** Edges of what is HEARD, of SHARES, RESTS, FLOODS and YEARS: part 3, promises 20 to 27. */
final class EdgesOfChance {
    private static final String RING = "B52J60J31J81J11P01P12P23P30W0212W2100";
    /**
     * Joint 0 in the middle of 1 (level 7), 2 (level 2), 3 (level 9). Behind even STEPS its walker is at 0; behind the
     * 1st, 3rd, 5th, 7th, 9th by UP at 3 1 3 1 3, by DOWN at 2 1 2 1 2, by ROUND at 1 2 1 2 1, by BACK at 3 2 3 2 3.
     */
    private static final String STAR = "B00J50J70J20J90P01P02P03W0900";
    /** One lid, at 1, own to both who walk to it from 0. */
    private static final String RIVALS = "B00J00J11P01W0101W0101";
    /** It is out as soon as one tide is low. */
    private static final String BY_LOW = "B52J90J31P01W0101";
    private static final String ALL_AT_ONCE = "B00J01J01J01J01P01P13P32P20W1130W3121W2123W0132";

    private EdgesOfChance() {}

    static void all() {
        heard();
        heardOfWhatIsNot();
        turns();
        share();
        rests();
        flood();
        drawing();
        pipesByChance();
        stepsByChance();
        promises();
    }

    private static void heard() {
        String words = "HEARD: that a WALKER was at a JOINT behind n STEPS (1 to 9) from now: 6 such at most, none at first ";
        Edges.test(words, "count(9) = 0; tell " + STAR, "count(9) = 0; turning(0) = 15; hear(0, 3, 0|10) = OUTSIDE",
            "hear(0, 3, 1) = 1; turning(0) = 9",
            "unhear() = 1; hear(0, 3, 9) = 1; turning(0) = 9; unhear() = 1; hear(0, 2, 9) = 1; turning(0) = 2",
            "unhear() = 1; hear(0, 1, 9) = 1",
            "turning(0) = 4; unhear() = 1; hear(0, 0, 9) = 1; turning(0) = 0; unhear() = 1; hear(0, 0, 8) = 1",
            "turning(0) = 15");
        Edges.test(words, "tell " + STAR, "hear(0, 0, 2) = 1; hear(0, 0, 4) = 2; hear(0, 0, 6) = 3; hear(0, 0, 8) = 4",
            "hear(0, 0, 2) = 5",
            "turning(0) = 15; hear(0, 3, 9) = 6; turning(0) = 9 # the sixth counts", "hear(0, 1, 1) = FULL",
            "turning(0) = 9; count(9) = 6; unhear() = 6",
            "count(9) = 0; turning(0) = 15; hear(0, 1, 1) = 1");
        Edges.test(words, "tell " + STAR, "hear(0, 3, 1) = 1; turning(0) = 9; step()",
            "turning(0) = 0 # from now: back in one STEP", "step(); turning(0) = 0",
            "call(0) = 2; turning(0) = 9 # from nowhere it may go there again");
    }

    private static void heardOfWhatIsNot() {
        String words = "(of WALKERS, JOINTS that there are not any more, of WALKERS that are OUT now, nothing is looked at).";
        Edges.test(words, "tell " + STAR, "hear(0, 3, 1) = 1; tell B00J50J70J20P01P02W0900 # joints 0 to 2",
            "count(9) = 1; turning(0) = 15",
            "hear(0, 2, 1) = 2; turning(0) = 10 # the last that there is", "tell B00J50J70P01W0900", "turning(0) = 15",
            "tell " + STAR,
            "turning(0) = 0 # they are there again, but it can not be at both", "count(9) = 2");
        Edges.test(words, "tell " + STAR + "W0900", "hear(1, 2, 1) = 1; turning(1) = 2; turning(0) = 15; tell " + STAR,
            "turning(1) = UNKNOWN; turning(0) = 15",
            "count(9) = 1; tell " + STAR + "W0900", "turning(1) = 2");
        Edges.test(words, "tell B00J00J11P01W0101W0900", "hear(0, 0, 1) = 1; turning(0) = 0; step() = 1",
            "turning(0) = STATE; turning(1) = 15; count(9) = 1",
            "undo() = 0; turning(0) = 0; turning(1) = 15");
    }

    private static void turns() {
        String words = "TURNS of a WALKER that is not OUT: those (bits 0 to 3) by which, others as they are, all that is HEARD of it is so "
            + "(one that is OUT by then is where it came out).";
        Edges.test(words, "tell " + STAR, "turning(0) = 15; hear(0, 1, 3) = 1; turning(0) = 3; unhear() = 1",
            "hear(0, 2, 3) = 1; turning(0) = 12",
            "hear(0, 1, 1) = 2; turning(0) = 4 # all that is heard", "hear(0, 2, 7) = 3; turning(0) = 4",
            "hear(0, 1, 9) = 4; turning(0) = 4; hear(0, 3, 9) = 5",
            "turning(0) = 0; walker(0, 3) = 0 # it turns as it did");
        Edges.test(words, "tell " + RIVALS, "hear(1, 0, 2) = 1",
            "turning(1) = 15 # the other one takes the lid, as it does");
        Edges.test(words, "tell " + RIVALS, "hear(1, 1, 2) = 1; turning(1) = 0; hear(0, 1, 2) = 2; hear(0, 1, 9) = 3",
            "turning(0) = 15; turning(1) = 0");
        // UP and ROUND lead it to the lid at once; DOWN and BACK in the third STEP, by 2 and 0.
        String lid = "tell B00J00J11J00P01P02W0101";
        Edges.test(words, lid, "hear(0, 1, 9) = 1; turning(0) = 15; hear(0, 1, 2) = 2; turning(0) = 5; unhear() = 2",
            "hear(0, 0, 2) = 1; turning(0) = 10",
            "hear(0, 2, 1) = 2; turning(0) = 10; hear(0, 1, 3) = 3; turning(0) = 10; hear(0, 1, 4) = 4",
            "turning(0) = 10; hear(0, 0, 4) = 5; turning(0) = 0");
        Edges.test("TURNS, as bits. UNKNOWN; STATE: it is OUT.", "turning(0) = UNKNOWN; " + lid, "turning(0) = 15",
            "turning(1|-1|MIN|MAX) = UNKNOWN; step() = 1",
            "turning(0) = STATE; hear(0, 1, 1) = 1; turning(0) = STATE; undo() = 0; turning(0) = 5; tell B00J00W0100",
            "hear(0, 0, 1) = 2; turning(0) = 15");
    }

    private static void share() {
        String words = "SHARE of a WALKER: if WALKERS come one by one, in each order as likely (others are not there): by how many in the mean "
            + "those that are RIGHT IN 20 STEPS are more when it has come than they were: a FRACTION ";
        Edges.test(words, "tell " + EdgesAhead.IN_41, "step() x20; share(0, true) = 0",
            "share(0, false) = 1 # 21 are left",
            "step(); share(0, true) = 1; share(0, false) = 1 # 20 are left");
        Edges.test(words, "tell " + RIVALS, "share(0|1, true) = 1; share(0|1, false) = 2; tell " + RIVALS + "W0101",
            "share(0|1|2, true) = 1; share(0|1|2, false) = 3");
        Edges.test(words, "tell " + RIVALS + "W0101W0101", "share(0|1|2|3, true) = 1; share(0|1|2|3, false) = 4");
        Edges.test(words, "tell " + ALL_AT_ONCE, "share(0|1|2|3, true|false) = 1");
        Edges.test(words, "tell B00J00J11P01W0100W0101W0101W0101 # the first, if it has come, takes it from three",
            "share(0, true) = -3; share(0, false) = 4; share(1|2|3, true) = 1; share(1|2|3, false) = 4");
        Edges.test(words, "tell B00J00J11P01W0100W0100W0101W0101 # two take it from two", "share(0|1, true) = -1",
            "share(0|1, false) = 4",
            "share(2|3, true) = 1; share(2|3, false) = 4");
        Edges.test(words, "tell B00J00J11P01W0100W0101W0101W0900 # one of no weight", "share(3, true) = 0",
            "share(3, false) = 1; share(0, true) = -2; share(0, false) = 3");
        String stay = "(those that are OUT now stay so, and count, when they have come).";
        Edges.test(stay, "tell " + RIVALS, "step() = 1; share(0, true) = 1; share(0, false) = 1; share(1, true) = 0",
            "share(1, false) = 1 # the lid is sealed",
            "seal(1) = 0; share(0, true) = 1; share(0, false) = 1; share(1, true) = 1",
            "share(1, false) = 1 # both may be right there");
        Edges.test(stay, "tell B00J00J11P01W0100W0101", "step() = 1; share(0, true) = 0; share(0, false) = 1",
            "share(1, true) = 0 # OUT, but not right",
            "seal(1) = 0; share(0, true) = 0; share(1, true) = 1; share(1, false) = 1");
        Edges.test("SHARE. UNKNOWN.", "share(0, true|false) = UNKNOWN; tell " + RIVALS,
            "share(2|-1|MIN|MAX, true|false) = UNKNOWN; share(1, true) = 1");
    }

    private static void rests() {
        String words = "RESTS of two WALKERS' mothers: each stands at a JOINT with a LID: she has 3, if her own is OUT there in 40 STEPS, 2, if the other one is "
            + "(5, if both are); 1 less, if both stand at one JOINT: pairs in which neither has more by another LID alone: how many; "
            + "the first (10 times the one and the other); NONE.";
        Edges.test(words, "tell " + STAR + "W0900 # no lids", "rests(0, 1, 0) = 0; rests(1, 0, 0) = 0",
            "rests(0, 1, 1) = NONE; rests(1, 0, 1) = NONE");
        Edges.test(words, "tell B00J01W0100W0100 # one lid, though both lose by it", "rests(0, 1, 0) = 1",
            "rests(0, 1, 1) = 0");
        Edges.test(words, "tell B00J00J01J00J01W0100W2102 # nobody comes up: apart", "rests(0, 1, 0) = 2",
            "rests(0, 1, 1) = 13; rests(1, 0, 1) = 13");
        Edges.test(words, "tell B00J01J01J01J01J01J01W0100W5105 # six lids: all pairs of two", "rests(0, 1, 0) = 30",
            "rests(0, 1, 1) = 1");
        Edges.test(words, "tell B00J00J00J00J00J01J01W0100W3100", "rests(0, 1, 0) = 2; rests(0, 1, 1) = 45",
            "seal(4|5) = 1; rests(0, 1, 0) = 2 # sealed, they are lids still");
        // Walker 0 at 2, walker 1 at 1: each has 3 at her own, and at the other's 2, which 3 less 1 is not more than.
        Edges.test(words, "tell " + RING, "rests(0, 1, 0) = 2; rests(0, 1, 1) = 12; rests(1, 0, 0) = 2",
            "rests(1, 0, 1) = 12; step() x4; rests(0, 1, 0) = 2; rests(0, 1, 1) = 12");
        // One comes up, at 1: there its mother has 3, the other one 2, and 1 less is more than nothing.
        Edges.test(words, "tell B00J00J11J01J01P01W0101W0101", "rests(0, 1, 0) = 1; rests(0, 1, 1) = 11",
            "rests(1, 0, 0) = 1; rests(1, 0, 1) = 11; step() = 1; seal(1) = 0",
            "rests(0, 1, 0) = 1; rests(0, 1, 1) = 11 # both come up there");
        // Two who go alike: behind 41 STEPS one is OUT at 0. The lid at 1 is sealed.
        Edges.test(words, "tell B07J51J31J30J80J30J40P15P43P03P54P52P42W4910W4910", "seal(1) = 1; rests(0, 1, 0) = 2",
            "rests(0, 1, 1) = 1 # in 41",
            "step(); rests(0, 1, 0) = 1; rests(0, 1, 1) = 0; rests(1, 0, 0) = 1 # in 40");
        Edges.test("RESTS: how many (what = 0), the first (1); NONE. UNKNOWN: both; OUTSIDE: both are one, what.",
            "rests(0, 1, 0) = UNKNOWN; tell " + RING,
            "rests(2|-1|MIN|MAX, 0, 0|1|2) = UNKNOWN; rests(0, 2|-1|MIN|MAX, 0|1|2) = UNKNOWN",
            "rests(2, 2, 0) = UNKNOWN; rests(0|1, -1, 0) = UNKNOWN",
            "rests(0, 0, 0|1|2) = OUTSIDE; rests(1, 1, 0|1) = OUTSIDE; rests(0, 1, -1|2|MIN|MAX) = OUTSIDE",
            "rests(1, 0, 1) = 12");
    }

    private static void flood() {
        String words = "FLOOD for a WALKER: each of n STEPS (1 to 6) has THE TIDE HIGH by x tenths (0 to 10), by itself, else LOW: that it is OUT then: a FRACTION.";
        Edges.test(words, "tell " + BY_LOW, "flood(0, 1, 3, true) = 7; flood(0, 1, 3, false) = 10",
            "flood(0, 2, 3, true) = 91; flood(0, 2, 3, false) = 100",
            "flood(0, 6, 5, true) = 63; flood(0, 6, 5, false) = 64; flood(0, 1|6, 0, true|false) = 1",
            "flood(0, 1|6, 10, true) = 0; flood(0, 1|6, 10, false) = 1",
            "flood(0, 6, 1, true) = 999999; flood(0, 6, 1, false) = 1000000", "step() x2",
            "flood(0, 1, 10, true) = 0 # LOW by THE CLOCK, and not asked for",
            "step() = 1; flood(0, 1|6, 10, true|false) = 1 # it is OUT");
        // By two LOW tides on end: a HIGH one between them drives it back.
        Edges.test(words, "tell B52J90J30J31P01P12W0202", "flood(0, 1, 0, true) = 0; flood(0, 1, 0, false) = 1",
            "flood(0, 2, 0, true|false) = 1; flood(0, 2, 5, true) = 1",
            "flood(0, 2, 5, false) = 4; flood(0, 3, 5, true) = 3; flood(0, 3, 5, false) = 8; flood(0, 2, 1, true) = 81",
            "flood(0, 2, 1, false) = 100");
        Edges.test(words, "tell B52J90J61J30P01P02W0111 # DOWN, at LOW, to no lid", "flood(0, 1, 3, true) = 3",
            "flood(0, 1, 3, false) = 10; flood(0, 1, 10, true|false) = 1");
        Edges.test(words, "tell B00J00J11P01W0101W0101", "flood(1, 6, 5, true) = 0",
            "flood(1, 6, 5, false) = 1 # the other one is there too");
        Edges.test("FLOOD. UNKNOWN; OUTSIDE: n, x.", "flood(0, 1, 1, true|false) = UNKNOWN; tell " + BY_LOW,
            "flood(1|-1|MIN|MAX, 1, 1, true|false) = UNKNOWN",
            "flood(0, 0|7|-1|MIN|MAX, 1, true|false) = OUTSIDE; flood(0, 1, -1|11|MIN|MAX, true|false) = OUTSIDE",
            "flood(0, 7, 11, true) = OUTSIDE");
    }

    // ---- years

    private static final BigInteger FACTOR = new BigInteger("6364136223846793005");
    private static final BigInteger MORE = new BigInteger("1442695040888963407");

    /** THE SEED behind so many draws, from 0 to 2 to the 64th. */
    private static BigInteger drawn(long seed, int times) {
        BigInteger x = BigInteger.valueOf(seed);
        for (int i = 0; i < times; i++) x = x.multiply(FACTOR).add(MORE);
        return x.mod(BigInteger.TWO.pow(64));
    }

    private static int left(long seed, int times) {
        return drawn(seed, times).shiftRight(33).mod(BigInteger.valueOf(14)).intValueExact();
    }

    /** A seed whose first draw leaves this, with THE SEED then below 0 or not, and whose second draw is a STEP. */
    private static long seedFor(int first, boolean below) {
        long seed = 1;
        while (left(seed, 1) != first || left(seed, 2) < 8 || drawn(seed, 1).testBit(63) != below) seed++;
        return seed;
    }

    private static void drawing() {
        String words = "YEARS by THE SEED: m times (1 to 30) x (THE SEED, a long; 0 at first) becomes x times 6364136223846793005 and 1442695040888963407 "
            + "(64 bits, wrapping); ";
        Edges.test(words, "years(1) = 0; seed(0) = 1442695040888963407; years(2) = 0",
            "seed(0) = " + drawn(0, 2).longValue());
        for (long seed : new long[] {0, 1, -1, 2, Long.MIN_VALUE, Long.MAX_VALUE, 6364136223846793005L}) {
            for (int m : new int[] {1, 2, 29, 30}) {
                Edges.test(words, "seed(" + seed + ") = 0; years(" + m + ") = 0",
                    "seed(0) = " + drawn(seed, m).longValue());
            }
        }
        Edges.test(words, "seed(7) = 0; years(0|31|-1|MIN|MAX) = OUTSIDE; seed(7) = 7; years(30) = 0; years(30) = 0",
            "seed(0) = " + drawn(7, 60).longValue());
    }

    /** Eight pipes, of which this one alone is at joint 0, where the walker is; its lid and own joint is at the other end. */
    private static String byPipe(int pipe) {
        StringBuilder pipes = new StringBuilder("P12P13P14P15P23P24P25");
        return pipes.insert(3 * pipe, "P01").insert(0, "B00J00J01J00J00J00J00").append("W0101").toString();
    }

    private static void pipesByChance() {
        String words = "its upper 31 bits by 14, what is left: 0 to 7 that PIPE is SHUT or opened, if there is such a one; ";
        for (int pipe = 0; pipe < 8; pipe++) {
            for (int first = 0; first < 14; first++) {
                String by = "seed(" + seedFor(first, first % 2 == 0) + ")";
                Edges.test(words, "tell " + byPipe(pipe), by, "years(2) = " + (first == pipe ? 0 : 1),
                    "shut(" + pipe + ") = 0", by,
                    "years(2) = " + (first == pipe ? 1 : 0), "pipe(" + pipe + ", 2) = 0");
            }
        }
        for (int first = 0; first < 8; first++) {
            Edges.test(words, "tell B00J00J01P01W0101", "seed(" + seedFor(first, true) + ")",
                "years(2) = " + (first == 0 ? 0 : 1) + " # one pipe: of the others there are none");
        }
    }

    private static void stepsByChance() {
        String words = "8 to 13 A STEP: how many are RIGHT at last. ";
        for (int first = 0; first < 14; first++) {
            for (boolean below : new boolean[] {false, true}) {
                Edges.test(words, "tell " + RIVALS.replace("W0101W0101", "W0101"),
                    "seed(" + seedFor(first, below) + ")", "years(1) = " + (first < 8 ? 0 : 1));
            }
        }
        long step = seedFor(13, true);
        Edges.test(words, "tell " + ALL_AT_ONCE, "seed(" + step + ")", "years(1) = 4 # how many, not which");
        Edges.test(words, "tell " + RING, "step() x4; count(6) = 3; years(1) = 1",
            "years(30) = 1 # two are OUT, one is right");
        String changes = "(Nothing changes but THE SEED.)";
        Edges.test(changes, "tell " + RIVALS, "seed(" + step + ") = 0; years(1) = 1; count(6) = 0; count(4) = 0",
            "count(8) = 0; joint(1, 2) = 0; pipe(0, 2) = 1",
            "seed(" + seedFor(0, false) + ") = " + drawn(step, 1).longValue(), "years(1) = 0; pipe(0, 2) = 1",
            "years(1) = 1 # from now again: the pipe is open");
        Edges.test(changes, "tell " + STAR, "step() x14; keep(0) = 14; hear(0, 3, 1) = 1; seed(5) = 0; years(30) = 0",
            "count(8) = 14; count(4) = 14; again(0) = 14; count(9) = 1");
    }

    private static void promises() {
        Edges.test("HEARD: how many there are. UNKNOWN: walker, joint; OUTSIDE: n; FULL: 6.", "hear(0, 0, 1) = UNKNOWN",
            "tell " + RING,
            "hear(2|-1|MIN|MAX, 0, 1) = UNKNOWN; hear(0, 4|-1|MIN|MAX, 1) = UNKNOWN",
            "hear(0, 0, 0|10|-1|MIN|MAX) = OUTSIDE; count(9) = 0",
            "hear(0, 0, 1) = 1; hear(1, 3, 9) = 2; hear(0, 0, 1) = 3; hear(0, 0, 5) = 4; hear(0, 0, 6) = 5",
            "hear(0, 0, 7) = 6; hear(0, 0, 8) = FULL",
            "hear(0, 0, 0|10) = OUTSIDE; hear(0, 4, 1) = UNKNOWN; hear(2, 0, 1) = UNKNOWN; count(9) = 6; step() x3",
            "unhear() = 6; hear(1, 0, 1) = 1 # of one that is OUT");
        Edges.test("Nothing is HEARD: how much there was.", "unhear() = 0; tell " + STAR, "unhear() = 0",
            "hear(0, 3, 1) = 1; unhear() = 1; unhear() = 0; count(9) = 0",
            "turning(0) = 15; hear(0, 3, 1) x6; unhear() = 6; unhear() = 0; hear(0, 2, 1) = 1; turning(0) = 2");
        Edges.test("THE SEED is v: what it was.", "seed(0) = 0; seed(-1) = 0; seed(9223372036854775807) = -1",
            "seed(-9223372036854775808) = 9223372036854775807",
            "seed(-9) = -9223372036854775808; seed(-3) = -9; seed(4294967296) = -3; seed(0) = 4294967296",
            "tell " + RING, "seed(8) = 0; net() = 442; seed(0) = 8");
        Edges.test("YEARS. OUTSIDE: m.", "years(0|31|-1|MIN|MAX) = OUTSIDE; seed(3) = 0",
            "years(0|31|-1|MIN|MAX) = OUTSIDE; seed(3) = 3; years(1) = 0; years(30) = 0");
    }
}
