/** Edges of THE TIDE, of NEXT and of A STEP: the middle of part 1, promises 6 to 9. */
final class EdgesOfWalks {
    private static final String RING = "B52J60J31J81J11P01P12P23P30W0212W2100";
    /** Joint 0 in the middle of 1 (level 7), 2 (level 2), 3 (level 9); its walker, at 0, turns UP and never comes up. */
    private static final String STAR = "B00J50J70J20J90P01P02P03W0900";
    private static final String SIX_JOINTS = "B00J00J00J00J00J00J00";
    /** Four lids in a ring 0-1-3-2, four walkers of whom each comes up at its own, another one, in the first step. */
    private static final String ALL_AT_ONCE = "B00J01J01J01J01P01P13P32P20W1130W3121W2123W0132";

    private EdgesOfWalks() {}

    static void all() {
        tide();
        under();
        joinedOnes();
        whereItComesFrom();
        highestAndLowest();
        roundAndRound();
        staying();
        stepsByNumber();
        farEnough();
        lids();
        jointCall();
        pipeCall();
        walkerCall();
        stepCall();
    }

    private static void tide() {
        String words = "THE TIDE is HIGH, if THE CLOCK by 4 leaves 0 or 1, else LOW.";
        for (String told : new String[] {"73", "37"}) {
            String high = " = " + told.charAt(0), low = " = " + told.charAt(1);
            Edges.test(words, "tell B" + told, "count(5)" + high, "step(); count(5)" + high, "step(); count(5)" + low,
                "step(); count(5)" + low, "step(); count(5)" + high, "step(); count(5)" + high, "step()",
                "count(5)" + low,
                "step(); count(5)" + low, "step(); count(5)" + high, "step() x392; count(4) = 400; count(5)" + high,
                "step(); count(5)" + high, "step(); count(5)" + low, "step(); count(5)" + low, "step()",
                "count(5)" + high);
        }
    }

    private static void under() {
        String words = "A JOINT is UNDER, if its LEVEL is less than THE TIDE.";
        Edges.test(words, "tell B51J40J50J60J00J10", "joint(0, 3) = 1; joint(1, 3) = 0; joint(2, 3) = 0",
            "joint(3|4, 3) = 1",
            "step() x2; joint(3, 3) = 1; joint(4, 3) = 0; joint(0|1|2, 3) = 0");
        Edges.test(words, "tell B90J90J80J00", "joint(0, 3) = 0; joint(1|2, 3) = 1; step() x2",
            "joint(0|1|2, 3) = 0 # none is less than 0");
    }

    private static void nextIs(String words, String net, String... next) {
        for (int turns = 0; turns < next.length; turns++) {
            Edges.test(words, "tell " + net.replace("t", "" + turns), "walker(0, 6) = " + next[turns]);
        }
    }

    private static void joinedOnes() {
        String words = "NEXT of a WALKER that is not OUT: of JOINTS that a PIPE which is open joins to its own, that are not UNDER, ";
        nextIs(words, "B00J00J10J90P01P12W01t0", "1", "1", "1", "1");
        nextIs(words, "B00J00J10J90P10P12W01t0", "1", "1", "1", "1");
        nextIs(words, "B00J00J10J90P12W01t0", "NONE", "NONE", "NONE", "NONE");
        Edges.test(words, "tell B00J00J10P01W0100", "shut(0) = 0; walker(0, 6) = NONE; shut(0) = 1; walker(0, 6) = 1");
        Edges.test(words, "tell B00J00J11P01W0101", "step() = 1; walker(0, 6) = NONE # it is OUT");
        nextIs(words, "B30J50J20J30P01P02W01t0", "2", "2", "2", "2");
        nextIs(words, "B30J50J30J20P01P02W01t0", "1", "1", "1", "1");
        nextIs(words, "B30J50J20J20P01P02W01t0", "NONE", "NONE", "NONE", "NONE");
        nextIs(words, "B90J00J90P01W01t0", "1", "1", "1", "1");
        nextIs(words, "B90J90J80P01W01t0", "NONE", "NONE", "NONE", "NONE");
    }

    private static void whereItComesFrom() {
        String words = "and not where it comes from (unless there is no other one), ";
        Edges.test(words, "tell " + STAR, "walker(0, 6) = 3; step(); walker(0, 6) = 0 # no other one",
            "step(); walker(0, 6) = 1 # not the highest, where it comes from", "shut(0) = 0; walker(0, 6) = 2",
            "shut(1) = 0; walker(0, 6) = 3 # no other one any more", "shut(2) = 0; walker(0, 6) = NONE",
            "shut(1) = 1; walker(0, 6) = 2 # the other one, and not the one that is shut");
        Edges.test(words, "tell B50J90J90J00P01P12W0900 # joint 2 is under at HIGH",
            "step(); walker(0, 0) = 1; walker(0, 6) = 0 # the other one is under", "step() x2; walker(0, 0) = 1",
            "walker(0, 1) = 0",
            "count(5) = 0; walker(0, 6) = 2");
        Edges.test(words, "tell B09J00J00P01W0900", "step(); walker(0, 6) = 0; step(); walker(0, 0) = 0",
            "walker(0, 1) = 1",
            "walker(0, 6) = NONE # where it comes from is under too");
        Edges.test(words, "tell B09J00J00J00J00P01P12P23W0900 # nobody goes at LOW", "step() x4; walker(0, 0) = 2",
            "walker(0, 1) = 1",
            "walker(0, 6) = 3 # where it comes from is so still, behind two STEPS by which it stayed");
        nextIs(words, "B00J00J00J00P01P02W09t0", "1", "1", "1", "2");
    }

    private static void highestAndLowest() {
        String words = "by TURNS: UP the highest, DOWN the lowest, ";
        nextIs(words, STAR.replace("W0900", "W09t0"), "3", "2", "1", "3");
        nextIs(words, "B00J50J00J90P01P02W09t0", "2", "1");
        nextIs(words, "B00J50J90J00P01P02W09t0", "1", "2");
        String like = "of like ones the least number; ";
        nextIs(like, "B00J50J50J70J70P03P02P01W09t0", "2", "1");
        nextIs(like, "B00J50J70J50J50P03P02P01W09t0", "1", "2");
        nextIs(like, "B00J50J00J00J00P03P02P01W09t0", "1", "1");
        nextIs(like, "B00J90J90J00J90P32P31P30W39t0", "0", "2");
        Edges.test(like, "tell B00J50J70J70J70P03P02P01W0900", "step() x2; walker(0, 1) = 1",
            "walker(0, 6) = 2 # the least but where it comes from");
    }

    private static void roundAndRound() {
        String words = "ROUND the one that comes first behind its own by number (round and round), BACK likewise ahead of its own; ";
        // By ROUND, and by BACK, from joints in the middle, the last and the first one.
        String[][] nets = {
            {"P32P34W31t0", "4", "2"}, {"P30P32W31t0", "0", "2"}, {"P34P35W31t0", "4", "5"}, {"P30P35W31t0", "5", "0"},
            {"P50P54W51t0", "0", "4"}, {"P51P53W51t0", "1", "3"}, {"P01P05W01t0", "1", "5"}, {"P02P04W01t0", "2", "4"},
            {"P05W01t0", "5", "5"}, {"P05W51t0", "0", "0"}, {"P23W21t0", "3", "3"}, {"P01P02P03P04P05W01t0", "1", "5"},
            {"P50P51P52P53P54W51t0", "0", "4"}, {"P20P21P23P24P25W21t0", "3", "1"}, {"P10P15W11t0", "5", "0"}, {"P40P45W41t0", "5", "0"},
        };
        for (String[] net : nets) {
            Edges.test(words, "tell " + SIX_JOINTS + net[0].replace('t', '2'), "walker(0, 6) = " + net[1]);
            Edges.test(words, "tell " + SIX_JOINTS + net[0].replace('t', '3'), "walker(0, 6) = " + net[2]);
        }
        Edges.test(words, "tell B00J00J90J00J90P20P21P23W2130 # three joints ahead of it, whatever their levels",
            "walker(0, 6) = 1");
        Edges.test(words, "tell B00J00J00J00P20P21W2120 # of three joints the first comes behind the last",
            "walker(0, 6) = 0");
        Edges.test(words, "tell B00J00J00J00P01P02W0130 # and the last ahead of the first", "walker(0, 6) = 2");
        Edges.test(words, "tell B00J00J00P01W0130 # of two the other one", "walker(0, 6) = 1");
        Edges.test(words, "tell B40J90J30J90J40P01P02P03W0120 # the first one is under", "walker(0, 6) = 2");
    }

    private static void staying() {
        Edges.test("NONE: it stays.", "tell B00J01W0100", "walker(0, 6) = NONE; step() x3; walker(0, 0) = 0",
            "walker(0, 1) = NONE",
            "walker(0, 2) = 0; walker(0, 5) = 0; count(4) = 3");
        Edges.test("NONE: it stays.", "tell B09J00J00J00P01P12W0900", "step() x2; walker(0, 0) = 2; walker(0, 1) = 1",
            "walker(0, 2) = 2",
            "walker(0, 6) = NONE; step() x2; walker(0, 0) = 2; walker(0, 1) = 1; walker(0, 2) = 2; walker(0, 6) = 1");
    }

    private static void stepsByNumber() {
        String words = "A STEP: WALKERS that are not OUT, by number: it goes to NEXT (and comes from where it was), if there is one; ";
        Edges.test(words, "tell B00J00J11P01W0101W0101 # one lid for two", "step() = 1; walker(0, 5) = 1",
            "walker(1, 5) = 0",
            "walker(1, 0) = 1; walker(1, 1) = 0; step() = 0; walker(0, 0) = 1; walker(0, 1) = 0",
            "walker(0, 2) = 1 # who is OUT goes nowhere",
            "walker(1, 0) = 0; walker(1, 1) = 1; walker(1, 2) = 2");
        Edges.test(words, "tell B00J00J11P01W0201W0101 # the first is not to come up yet", "step() = 2",
            "walker(0, 5) = 0; joint(1, 2) = 1",
            "step() = 0; step() = 0; walker(0, 0) = 1; walker(0, 5) = 0 # the lid is sealed");
        Edges.test(words, "tell B00J00J00W0900 # no NEXT", "step() = 0; walker(0, 0) = 0; walker(0, 1) = NONE");
        Edges.test(words, "step() = 0; count(4) = 1 # nobody");
        Edges.test("it is OUT there, and the LID is SEALED. THE CLOCK is one more.", "tell " + ALL_AT_ONCE,
            "joint(0|1|2|3, 2) = 0",
            "step() = 15; joint(0|1|2|3, 2) = 1; count(6) = 15; count(7) = 15; walker(0, 0) = 0; walker(1, 0) = 1",
            "walker(2, 0) = 3",
            "walker(3, 0) = 2; count(4) = 1; step() = 0; count(4) = 2; count(6) = 15 # all are OUT");
        Edges.test("it is OUT there, and the LID is SEALED. THE CLOCK is one more.", "count(4) = 0; step() x300",
            "count(4) = 300",
            "shut(0) = UNKNOWN; keep(0) = 300; undo() = 13; count(4) = 299");
    }

    private static void farEnough() {
        String words = "then, if it has gone as many STEPS as it goes at least, or more (STEPS by which it stayed count not), ";
        Edges.test(words, "tell B00J01J01P01W0101 # as many as 1", "step() = 1");
        Edges.test(words, "tell B00J01J01P01W0201 # 2: it passes by the first lid", "step() = 0; walker(0, 0) = 1",
            "step() = 1; walker(0, 0) = 0");
        Edges.test(words, "tell B00J00J00J00J01P01P12P23W0101 # more than 1", "step() x2; count(6) = 0; step() = 1",
            "walker(0, 0) = 3; walker(0, 2) = 3");
        Edges.test(words, "tell B00J01J01P01W0901 # 9, with a lid everywhere", "step() x8; count(6) = 0",
            "walker(0, 2) = 8; step() = 1; walker(0, 2) = 9");
        Edges.test(words, "tell B00J00J01P01W0901 # as many as 9: there behind 1, 3, 5, 7, 9", "step() x8",
            "count(6) = 0; step() = 1");
        Edges.test(words, "tell B00J00J01P01W1901 # more than 9: there behind 2, 4, 6, 8, 10", "step() x9",
            "count(6) = 0; step() = 1; walker(0, 2) = 9");
        Edges.test(words, "tell B00J00J01P01W0101", "seal(1) = 1; step() x31; count(6) = 0; walker(0, 2) = 9",
            "seal(1) = 0; step() = 0",
            "walker(0, 0) = 0; step() = 1 # far more than 9");
        Edges.test(words, "tell B00J01W0100 # none: not behind any number of STEPS", "step() x40; count(6) = 0",
            "walker(0, 2) = 0; walker(0, 5) = 0");
        Edges.test(words, "tell B90J80J81J81P01P12W0202 # it stays at HIGH", "step() x2; walker(0, 2) = 0; step() = 0",
            "walker(0, 2) = 1",
            "walker(0, 0) = 1; step() = 1; walker(0, 0) = 2");
        Edges.test(words, "tell B09J80J81J80P01P12W0301 # it stays at LOW, at 2, having gone 2", "step() x4",
            "walker(0, 0) = 2; walker(0, 2) = 2",
            "count(6) = 0; step() = 1; walker(0, 0) = 1 # the third");
        Edges.test(words, "tell B09J00J00J01P01P12W0202", "seal(2) = 1; step() x3; walker(0, 0) = 2; walker(0, 5) = 0",
            "seal(2) = 0",
            "step() = 1; walker(0, 0) = 2; walker(0, 2) = 2 # it stays, and comes up where it is");
    }

    private static void lids() {
        String words = "and the JOINT has a LID that is not SEALED: ";
        Edges.test(words, "tell B00J00J00P01W0101 # plain", "step() x20; count(6) = 0");
        Edges.test(words, "tell B00J00J01P01W0101", "seal(1) = 1; step() = 0; step() = 0; step() = 0; walker(0, 0) = 1",
            "seal(1) = 0",
            "step() = 0; step() = 1");
        Edges.test(words, "tell B00J00J01P01W0101", "step() = 1; joint(1, 2) = 1");
    }

    private static void jointCall() {
        String words = "Of a JOINT its LEVEL (what = 0), KIND (1), 1 if its LID is SEALED (2), 1 if it is UNDER now (3), "
            + "JOINTS that a PIPE which is open joins to it (4: bits). UNKNOWN; OUTSIDE.";
        Edges.test(words, "tell " + RING, "joint(0, 0) = 6; joint(0, 1) = 0; joint(0, 2) = 0; joint(0, 3) = 0",
            "joint(0, 4) = 10",
            "joint(3, 0) = 1; joint(3, 1) = 1; joint(3, 2) = 0; joint(3, 3) = 1; joint(3, 4) = 5",
            "joint(0|3, 5|6|-1|MIN|MAX) = OUTSIDE; joint(4|-1|MIN|MAX, 0|4|5|-1) = UNKNOWN",
            "seal(3) = 1; joint(3, 2) = 1; joint(2, 2) = 0; seal(3) = 0; joint(3, 2) = 0; shut(3) = 0; joint(3, 4) = 4",
            "joint(0, 4) = 2",
            "shut(0) = 0; joint(0, 4) = 0");
        Edges.test(words, "tell " + SIX_JOINTS + "P01P20P03P40P05", "joint(0, 4) = 62; joint(1|2|3|4|5, 4) = 1");
        Edges.test(words, "tell B00J91", "joint(0, 0) = 9; joint(0, 1) = 1; joint(0, 2) = 0; joint(0, 3) = 0",
            "joint(0, 4) = 0 # no pipes");
    }

    private static void pipeCall() {
        Edges.test("Of a PIPE its JOINTS (what = 0, 1: as they were told), 1 if it is open (2). UNKNOWN; OUTSIDE.",
            "tell " + SIX_JOINTS + "P01P21P23P43P45P05P02P31", "pipe(0, 0) = 0; pipe(0, 1) = 1; pipe(1, 0) = 2",
            "pipe(1, 1) = 1",
            "pipe(7, 0) = 3; pipe(7, 1) = 1; pipe(0|1|2|3|4|5|6|7, 2) = 1; shut(7) = 0; pipe(7, 2) = 0; pipe(6, 2) = 1",
            "shut(7) = 1",
            "pipe(7, 2) = 1; pipe(0|7, 3|4|-1|MIN|MAX) = OUTSIDE; pipe(8|-1|MIN|MAX, 0|3|-1) = UNKNOWN");
    }

    private static void walkerCall() {
        String words = "Of a WALKER its JOINT (what = 0), where it comes from (1; NONE), how far it went (2: STEPS, 9 at most), TURNS (3), "
            + "its own JOINT (4), 1 if it is OUT (5), NEXT (6; NONE), how far it goes at least (7). UNKNOWN; OUTSIDE.";
        Edges.test(words, "tell " + RING, "walker(0, 0) = 0; walker(0, 1) = NONE; walker(0, 2) = 0; walker(0, 3) = 1",
            "walker(0, 4) = 2",
            "walker(0, 5) = 0; walker(0, 6) = NONE; walker(0, 7) = 2; walker(0|1, 8|9|-1|MIN|MAX) = OUTSIDE",
            "walker(2|-1|MIN|MAX, 0|7|8|-1) = UNKNOWN; step() x2; walker(0, 6) = 1; step() = 2",
            "walker(1, 0) = 1; walker(1, 1) = 2; walker(1, 2) = 1; walker(1, 5) = 1; walker(1, 6) = NONE",
            "walker(1, 7) = 1",
            "walker(0, 0) = 1; walker(0, 1) = 0; walker(0, 2) = 1; walker(0, 5) = 0; walker(0, 6) = 2");
        Edges.test(words, "tell " + STAR, "step() x8; walker(0, 2) = 8; step(); walker(0, 2) = 9; step()",
            "walker(0, 2) = 9; step() x90",
            "walker(0, 2) = 9; undo() x14; walker(0, 2) = 9; call(0) = 9; walker(0, 2) = 0; step(); walker(0, 2) = 1");
    }

    private static void stepCall() {
        Edges.test("A STEP: who came OUT, as bits.", "step() = 0; tell " + ALL_AT_ONCE, "step() = 15",
            "step() = 0 # only who came OUT by it");
        Edges.test("A STEP: who came OUT, as bits.", "tell " + RING, "step() = 0; step() = 0; step() = 2; step() = 1",
            "step() = 0; count(6) = 3");
        Edges.test("A STEP: who came OUT, as bits.", "tell B00J00J00J01P12W0100W0100W0100W1102 # the last of four",
            "step() = 8");
    }
}
