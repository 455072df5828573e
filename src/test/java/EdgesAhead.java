/** Edges of who comes up, of ways, mending, watching and judging: part 2, promises 14 to 19. */
final class EdgesAhead {
    private static final String RING = "B52J60J31J81J11P01P12P23P30W0212W2100";
    private static final String STAR = "B00J50J70J20J90P01P02P03W0900";
    /** Four lids in a ring 0-1-3-2, four walkers of whom each comes up at its own, another one, in the first step. */
    private static final String ALL_AT_ONCE = "B00J01J01J01J01P01P13P32P20W1130W3121W2123W0132";
    /**
     * Its walker is out in the 41st step, at 0. HIGH is 0, LOW is 7, when joint 3 alone (level 8) is not under. By hand
     * (where it is behind each STEP; a dot where it stays): 2 5 . . 1 5 . . 2 4 3 . 0 (gone 8) 3 . . 4 2 . . 5 1 . .
     * 5 2 . . 4 5 . . 1 5 . . 2 4 3 . 0.
     */
    static final String IN_41 = "B07J51J30J30J80J30J40P15P43P03P54P52P42W4910";

    private EdgesAhead() {}

    static void all() {
        nothingChanged();
        inSteps();
        comes();
        way();
        mend();
        watchFewest();
        watchEightSteps();
        judgedDoings();
        judgedFigures();
        judgePromise();
    }

    private static void nothingChanged() {
        Edges.test("In what follows nothing is changed.", "tell " + RING, "step(); shut(2) = 0; seal(3) = 1",
            "keep(1) = 1; step(); hear(0, 1, 1) = 1; seed(9) = 0",
            "ahead(0|30, 0|1); comes(0|1, 0|1); way(0, 2); mend(0|1); watch(); judge(4, 100031); judge(4, 13230040)",
            "turning(0|1)",
            "share(0|1, true|false); rests(0, 1, 0|1); flood(0|1, 6, 5, true|false); fault(); count(4) = 2",
            "count(8) = 4; seed(0) = 9");
        Edges.test("In what follows nothing is changed.", "tell " + ALL_AT_ONCE, "ahead(30, 0) = 15",
            "comes(0|1|2|3, 0) = 1; mend(0|1|2|3); watch() = 6",
            "judge(4, 0) = NONE; share(0|1|2|3, true) = 1; rests(0, 3, 0); flood(3, 6, 1, true) = 1; count(6) = 0",
            "joint(0|1|2|3, 2) = 0; walker(0, 0) = 1");
        Edges.test("In what follows nothing is changed.", "tell " + STAR, "shut(0) = 0; step() x14; count(8) = 14",
            "ahead(30, 0) = 0; comes(0, 0) = NONE",
            "mend(0) = NONE; watch() = 1; judge(4, 40000010) = 3; judge(4, 20100040) = NONE; turning(0) = 15",
            "years(30) = 0; undo() x14; undo() = STATE");
    }

    private static void inSteps() {
        String words = "IN n STEPS (0 to 30): who is OUT (bits); who is RIGHT.";
        Edges.test(words, "tell " + IN_41, "step() x10; ahead(30, 0|1) = 0 # the 40th", "step(); ahead(29, 0|1) = 0",
            "ahead(30, 0|1) = 1 # the 41st",
            "ahead(0, 0|1) = 0; step() x29; ahead(0, 0|1) = 0; ahead(1, 0|1) = 1; step() = 1",
            "ahead(0|1|30, 0|1) = 1 # 0: now");
        Edges.test(words, "tell " + RING, "ahead(0|1|2, 0|1) = 0; ahead(3, 0) = 2; ahead(3, 1) = 0",
            "ahead(4|5|30, 0) = 3; ahead(4|5|30, 1) = 1");
        Edges.test(words, "tell " + ALL_AT_ONCE, "ahead(0, 0|1) = 0; ahead(1|30, 0|1) = 15");
        String promise = "IN n STEPS: who is OUT (what = 0: bits), who is RIGHT (1: bits). OUTSIDE: n, what.";
        Edges.test(promise, "ahead(0|30, 0|1) = 0; ahead(-1|31|MIN|MAX, 0|1) = OUTSIDE",
            "ahead(0|30, -1|2|MIN|MAX) = OUTSIDE; ahead(31, 2) = OUTSIDE; tell " + RING,
            "ahead(-1|31|32|MIN|MAX, 0|1) = OUTSIDE; ahead(0|30, -1|2|3|MIN|MAX) = OUTSIDE; ahead(30, 0) = 3",
            "ahead(30, 1) = 1");
    }

    private static void comes() {
        String words = "COMES of a WALKER: in how many STEPS (1 to 40) it is OUT, where; 0, if it is; NONE: not in 40.";
        Edges.test(words, "tell " + IN_41, "comes(0, 0|1) = NONE # in 41", "step(); comes(0, 0) = 40; comes(0, 1) = 0",
            "step(); comes(0, 0) = 39; step() x38",
            "comes(0, 0) = 1; comes(0, 1) = 0; step() = 1; comes(0, 0) = 0; comes(0, 1) = 0; step(); comes(0, 0) = 0");
        Edges.test(words, "tell " + RING, "comes(0, 0) = 4; comes(0, 1) = 2; comes(1, 0) = 3; comes(1, 1) = 1",
            "step() x3; comes(1, 0) = 0; comes(1, 1) = 1",
            "comes(0, 0) = 1; comes(0, 1) = 2; step(); comes(0, 0) = 0; comes(0, 1) = 2 # where, though it is OUT");
        Edges.test(words, "tell B00J00J11P01W0101W0101", "comes(0, 0) = 1; comes(1, 0|1) = NONE; step(); seal(1) = 0",
            "comes(1, 0) = 2; comes(1, 1) = 1; comes(0, 0) = 0");
        Edges.test(words, "tell " + ALL_AT_ONCE, "comes(0|1|2|3, 0) = 1; comes(0, 1) = 0; comes(1, 1) = 1",
            "comes(2, 1) = 3; comes(3, 1) = 2");
        Edges.test("COMES: in how many STEPS (what = 0), where (1); NONE. UNKNOWN; OUTSIDE.", "comes(0, 0) = UNKNOWN",
            "tell " + RING,
            "comes(2|-1|MIN|MAX, 0|1|2) = UNKNOWN; comes(0|1, -1|2|MIN|MAX) = OUTSIDE; comes(1, 1) = 1; tell " + STAR,
            "comes(0, 0|1) = NONE");
    }

    private static void way() {
        String words = "WAY from a JOINT to another one: the fewest STEPS by PIPES that are open (tides set aside); NONE.";
        Edges.test(words, "tell B99J00J00J00J00J00J00P01P12P23P34P45P50 # all is under, always", "way(0, 1) = 1",
            "way(0, 2) = 2; way(0, 3) = 3; way(0, 4) = 2",
            "way(0, 5) = 1; way(5, 0) = 1; way(3, 0) = 3; shut(5) = 0; way(0, 5) = 5; way(5, 0) = 5; shut(2) = 0",
            "way(0, 5) = NONE; way(5, 0) = NONE",
            "way(0, 2) = 2; way(3, 5) = 2; shut(5) = 1; way(2, 3) = 5; way(3, 2) = 5");
        Edges.test(words, "tell B00J00J00", "way(0, 1) = NONE; way(1, 0) = NONE; way(0, 0) = 0; way(1, 1) = 0");
        Edges.test("WAY; NONE; 0 to itself. UNKNOWN: both.", "way(0, 0) = UNKNOWN; tell " + RING, "way(0, 0) = 0",
            "way(3, 3) = 0; way(4|-1|MIN|MAX, 0) = UNKNOWN",
            "way(0, 4|-1|MIN|MAX) = UNKNOWN; way(4, 4) = UNKNOWN; way(-1, 4) = UNKNOWN; shut(0|3) = 0; way(0, 0) = 0",
            "way(0, 1|2|3) = NONE");
    }

    private static void mend() {
        String words = "MEND for a WALKER: the least PIPE (by number) which, SHUT or opened now, lets it be RIGHT in 40 STEPS; NONE.";
        Edges.test(words, "tell " + IN_41, "shut(2) = 0",
            "mend(0) = NONE # the only way to its lid, opened, lets it be so in 41", "step(); mend(0) = 2 # in 40",
            "shut(2) = 1; shut(2) = 0; step(); mend(0) = 2");
        Edges.test(words,
            "tell B00J00J11J00J00J00P01P23P34W0101 # without pipe 0 it can not; without any other it can",
            "mend(0) = 1; shut(0) = 0; mend(0) = 0",
            "shut(1) = 0; mend(0) = 0");
        Edges.test(words, "tell B00J00J91J11P01P02W0102 # UP leads to 1", "mend(0) = 0; shut(0) = 0; comes(0, 1) = 2",
            "mend(0) = NONE # 0 opened leads to 1, 1 shut leads nowhere", "shut(1) = 0; mend(0) = 1 # opened");
        Edges.test(words, "tell B00J00J01J00J00J00J00P12P13P14P15P23P24P25P01W0101 # the last of eight", "mend(0) = 0",
            "shut(7) = 0; mend(0) = 7");
        Edges.test(words, "tell B00J00J11P01W0100 # OUT, but not RIGHT", "mend(0) = NONE; tell B00J01W0100",
            "mend(0) = NONE # no pipes");
        Edges.test("MEND; NONE. UNKNOWN; STATE: it is OUT.", "mend(0) = UNKNOWN; tell " + RING,
            "mend(2|-1|MIN|MAX) = UNKNOWN; mend(0) = 2; mend(1) = NONE",
            "step() x3; mend(1) = STATE; step(); mend(0|1) = STATE; undo(); undo(); mend(1) = NONE");
    }

    private static void watchFewest() {
        String words = "WATCH: the fewest JOINTS (bits; of like ones the least) on one of which each WALKER that is not OUT is, ";
        Edges.test(words, "watch() = 0; tell B00J00", "watch() = 0 # nobody", "tell B00J00W0100", "watch() = 1");
        Edges.test(words, "tell B00J00J00J00J00J00J00W0100W5100W3100W2100 # four who stay, each somewhere else",
            "watch() = 45");
        Edges.test(words, "tell B00J00J00J00J00J00J00W5100W5100W5100W5100 # four at one", "watch() = 32");
        // They go by 0 and 1, 1 and 3, 2 and 3, 0 and 2: joints 1 and 2 (bits: 6) will do, and so will 0 and 3 (bits: 9).
        Edges.test(words, "tell " + ALL_AT_ONCE, "watch() = 6; step() = 15; watch() = 0 # all are OUT");
        Edges.test(words, "tell B00J00J00J00J00P01P23W0900W2900 # two here, two there", "watch() = 5");
        Edges.test(words, "tell " + RING, "step() x3; watch() = 2 # one is OUT at 1, the other at 1 and then at 2",
            "step(); watch() = 0");
        Edges.test(words, "tell B00J00J11J00P01W0101W2102", "watch() = 5; step() = 1",
            "watch() = 4 # who is OUT needs no one");
        Edges.test(words, "tell B00J00J00J01P01P12W0202 # it goes by 0, 1, 2, and does not come back", "watch() = 1",
            "step(); watch() = 2; watch() = 2; undo(); watch() = 1");
        Edges.test("WATCH, as bits.", "watch() = 0; tell " + RING, "watch() = 2");
    }

    private static void watchEightSteps() {
        String words = "now or behind one of the next 8 STEPS.";
        Edges.test(words,
            "tell B00J00J01J01P01P02W0101W0132 # one is out at 1, the other at 2, in the first step: both are at 0 now", "watch() = 1");
        Edges.test(words, "tell B00J00J01J01P01P12W0101W1122 # one comes up at 1, where the other is now",
            "watch() = 2");
        // LOW is 1: they go at LOW alone, by 0 1 2 3 4 and by 5 4 3 2 1, the last of these behind the 8th STEP; 0 comes behind the 9th.
        Edges.test(words, "tell B91J90J10J10J10J10J10P01P12P23P34P45W0900W5905", "watch() = 2; step(); watch() = 1");
        Edges.test(words, "tell B00J00J00J00J00J00J00P01P12P23P34P45W0900W5900 # both go the whole line",
            "watch() = 1");
    }

    private static void judgedDoings() {
        String words = "JUDGED: n doings (1 to 4), told as two figures each (0 and 0: A STEP; 1 and a PIPE: SHUT, if it was open; "
            + "2 and a PIPE: opened, if it was not; 3 and a JOINT: SEALED, or not any more; 4 and a WALKER: CALLED): ";
        Edges.test(words, "tell " + RING, "judge(1, 0) = NONE; judge(1, 1|2|5|9) = 0 # 0 and 0 alone",
            "judge(1, 10|13) = NONE; judge(1, 14|15|19) = 0",
            "judge(1, 20|23|24|29) = 0 # all are open, or are not there",
            "judge(1, 31|33) = NONE; judge(1, 30) = 0; judge(1, 34|35|39) = 0; judge(1, 40|41) = NONE",
            "judge(1, 42|43|49) = 0",
            "judge(1, 50|59|60|70|80|90|99) = 0; shut(3) = 0; judge(1, 13) = 0; judge(1, 23) = NONE",
            "judge(1, 12) = NONE; judge(1, 22) = 0",
            "seal(3) = 1; judge(1, 33) = NONE; judge(2, 3333) = NONE");
        Edges.test(words, "tell B00J00J00J00J00J00J01P01P12P23P34P45P50P02P13", "judge(1, 17) = NONE; judge(1, 18) = 0",
            "judge(1, 35) = NONE; judge(1, 36) = 0",
            "judge(1, 40) = 0; judge(2, 1727) = NONE; judge(2, 1717) = 1; judge(2, 2717) = 0; judge(3, 172717) = NONE",
            "judge(3, 172727) = 2");
        Edges.test(words, "tell B00J00W0100W0100W0100W0100", "judge(1, 43) = NONE; judge(1, 44) = 0",
            "judge(4, 40414243) = NONE; judge(4, 40414244) = 3");
        Edges.test(words, "judge(1, 0) = NONE; judge(4, 0) = NONE; judge(1, 10|20|30|40) = 0 # nothing is there");
        Edges.test(words, "tell " + RING, "judge(4, 41) = 3; judge(3, 41) = NONE",
            "judge(4, 40) = NONE # walker 1 is OUT behind the third STEP",
            "step() x2; judge(2, 41) = 1; judge(3, 310041) = NONE; judge(4, 31310041) = 3; judge(3, 110041) = NONE",
            "judge(3, 410041) = 2",
            "judge(2, 31) = NONE; step(); judge(1, 41) = 0; judge(1, 31) = NONE # sealed by who is OUT: not any more",
            "judge(2, 40) = 1; judge(3, 400040) = NONE; judge(3, 400041) = 2");
    }

    private static void judgedFigures() {
        String words = "the place of the first that can not be; NONE: none.";
        Edges.test(words, "tell " + RING, "judge(4, 99000000) = 0; judge(4, 990000) = 1; judge(4, 9900) = 2",
            "judge(4, 99) = 3; judge(4, 0) = NONE",
            "judge(4, 99999999) = 0; judge(4, 999999) = 1; judge(4, 9999) = 2; judge(2, 5) = 1; judge(2, 500) = 0",
            "judge(3, 5) = 2; judge(3, 50000) = 0",
            "judge(4, 10) = NONE; judge(2, 1010) = 1; judge(2, 1020) = NONE; judge(2, 2010) = 0",
            "judge(4, 10201020) = NONE; judge(4, 10201010) = 3",
            "judge(4, 10102020) = 1 # what can not be ends it");
    }

    private static void judgePromise() {
        Edges.test("JUDGED; NONE. OUTSIDE: n, row (0 or more, 2 n figures at most).", "tell " + RING,
            "judge(0|5|-1|6|MIN|MAX, 0) = OUTSIDE",
            "judge(1|2|3|4, -1|-10|MIN) = OUTSIDE; judge(1, 99) = 0; judge(1, 100|1000|10000|MAX) = OUTSIDE",
            "judge(2, 9999) = 0; judge(2, 10000|MAX) = OUTSIDE",
            "judge(3, 999999) = 0; judge(3, 1000000|MAX) = OUTSIDE; judge(4, 99999999) = 0",
            "judge(4, 100000000|1000000000|MAX) = OUTSIDE",
            "judge(0, -1) = OUTSIDE; judge(5, 100) = OUTSIDE; judge(1|2|3|4, 0) = NONE");
    }
}
