/** Edges of the SLOTS and of counting: the end of part 3, promises 28 to 30, and how often an object is used. */
final class EdgesOfSlots {
    private static final String RING = "B52J60J31J81J11P01P12P23P30W0212W2100";
    private static final String STAR = "B00J50J70J20J90P01P02P03W0900";
    private static final String ALL_AT_ONCE = "B00J01J01J01J01P01P13P32P20W1130W3121W2123W0132";

    private EdgesOfSlots() {}

    static void all() {
        slots();
        keepAndAgain();
        count();
        lastCalls();
    }

    private static void slots() {
        String words = "SLOTS 0 to 1 keep where WALKERS are, come from, how far they went, who is OUT, PIPES, LIDS, THE CLOCK "
            + "(THE ROW of ACTS is empty when one goes on).";
        for (int slot = 0; slot <= 1; slot++) {
            String keep = "keep(" + slot + ")", again = "again(" + slot + ")", other = "again(" + (1 - slot) + ")";
            Edges.test(words, "tell " + RING, "step() x3; shut(2) = 0; seal(3) = 1; " + keep + " = 3; shut(2) = 1",
                "seal(3) = 0; call(0) = 1; step(); shut(0) = 0",
                again + " = 3; count(4) = 3; count(6) = 2; pipe(0, 2) = 1; pipe(2, 2) = 0; joint(3, 2) = 1",
                "joint(1, 2) = 1; joint(2, 2) = 0; walker(0, 0) = 1",
                "walker(0, 1) = 0; walker(0, 2) = 1; walker(1, 5) = 1; count(8) = 0",
                "undo() = STATE; " + other + " = STATE; step() = 1; count(8) = 1",
                again + " = 3; count(8) = 0; count(6) = 2; undo() = STATE");
            Edges.test(words, "tell " + STAR, "step() x2; " + keep + " = 2; step() x9; " + again + " = 2",
                "walker(0, 0) = 0; walker(0, 1) = 3; walker(0, 2) = 2; walker(0, 6) = 1",
                "step() x15; count(8) = 14; undo() x14; count(4) = 3; undo() = STATE; " + again + " = 2");
            Edges.test(words, keep + " = 0; step() x5; " + again + " = 0",
                "count(4) = 0 # nothing is there but THE CLOCK");
        }
        Edges.test(words, "tell " + RING, "keep(0) = 0; step() x4; keep(1) = 4; again(0) = 0; count(6) = 0",
            "again(1) = 4; count(6) = 3; count(7) = 1; again(0) = 0; step() x2",
            "keep(0) = 2; again(1) = 4; again(0) = 2; count(8) = 0 # kept anew");
        Edges.test(words, "tell " + RING, "hear(0, 1, 1) = 1; seed(6) = 0; keep(0) = 0; hear(0, 1, 1) = 2; seed(7) = 6",
            "type J", "again(0) = 0; count(9) = 2; seed(0) = 7; count(0) = 38");
    }

    private static void keepAndAgain() {
        Edges.test("They are kept: THE CLOCK. UNKNOWN.", "keep(0|1) = 0; keep(2|3|-1|MIN|MAX) = UNKNOWN; step() x5",
            "keep(1) = 5; count(8) = 5; undo() = 4; keep(0) = 4; again(1) = 5",
            "again(0) = 4; tell " + RING, "step() x3; keep(-1|2) = UNKNOWN; keep(0) = 3",
            "count(8) = 3 # keeping is no act, and empties nothing");
        Edges.test("They are as they were kept: THE CLOCK. UNKNOWN; STATE: none were kept.", "again(0|1) = STATE",
            "again(2|3|-1|MIN|MAX) = UNKNOWN; tell " + RING,
            "again(0|1) = STATE; step() x3; again(0|1) = STATE; count(8) = 3; keep(1) = 3; again(0) = STATE",
            "count(8) = 3; again(1) = 3; count(8) = 0; again(1) = 3",
            "net() = 442; again(0|1) = STATE; again(2|-1) = UNKNOWN");
    }

    private static void count() {
        String words = "0 letters of THE TEXT, 1 JOINTS, 2 PIPES, 3 WALKERS, 4 THE CLOCK, 5 THE TIDE, 6 who is OUT (bits), 7 who is RIGHT (bits), "
            + "8 ACTS in the row, 9 HEARD. OUTSIDE.";
        Edges.test(words, "count(0|1|2|3|4|5|6|7|8|9) = 0; count(-1|10|11|MIN|MAX) = OUTSIDE");
        Edges.test(words, "tell B98J01J01J01J01J01J01P01P12P23P34P45P50P02P13W0100W0100W0100", "count(0) = 60",
            "count(1) = 6; count(2) = 8; count(3) = 3; count(5) = 9",
            "step() x15; count(4) = 15; count(5) = 8; count(8) = 14; hear(0, 0, 1) x6; count(9) = 6",
            "count(-1|10|11|MIN|MAX) = OUTSIDE; count(6|7) = 0");
        Edges.test(words, "tell " + ALL_AT_ONCE, "count(3) = 4; count(6|7) = 0; step() = 15; count(6|7) = 15",
            "undo() = 0; count(6|7) = 0");
        Edges.test(words, "tell " + RING, "step() x3; count(6) = 2; count(7) = 0; step(); count(6) = 3; count(7) = 1",
            "wipe() = 37; count(0) = 0; count(1) = 4");
    }

    private static void lastCalls() {
        String words = "An object is used for at most 512 calls after it has been made; what later calls answer is free.";
        Edges.test(words, "tell " + RING, "step() x472; count(4) = 472 # the 512th");
        Edges.test(words, "tell " + STAR, "step() x480; undo() = 13 # the 512th");
        Edges.test(words, "write(74) x60; write(74) x451; write(74) = FULL");
    }
}
