/** Edges of what is SHUT, SEALED, CALLED, and of the row of ACTS: the end of part 1, promises 10 to 13. */
final class EdgesOfActs {
    private static final String RING = "B52J60J31J81J11P01P12P23P30W0212W2100";
    private static final String STAR = "B00J50J70J20J90P01P02P03W0900";
    private static final String ROW = "ACTS (STEPS, SHUT, SEALED, CALLED) are a row (14 at most; of more the first one is forgotten); ";

    private EdgesOfActs() {}

    static void all() {
        shutAndOpen();
        sealedOrNot();
        calledBack();
        rowOfActs();
        lastUndone();
        rightOnes();
        promises();
    }

    private static void shutAndOpen() {
        String words = "SHUT: a PIPE is not open, or open again.";
        Edges.test(words, "tell " + STAR, "shut(2) = 0; pipe(2, 2) = 0; pipe(0|1, 2) = 1; walker(0, 6) = 1",
            "shut(2) = 1; pipe(2, 2) = 1",
            "walker(0, 6) = 3; shut(0|1|2) = 0; walker(0, 6) = NONE; step() = 0; walker(0, 0) = 0; shut(1) = 1",
            "step() = 0; walker(0, 0) = 2");
        Edges.test(words, "tell " + STAR, "step(); shut(2) = 0; walker(0, 6) = NONE # not the one behind it either");
    }

    private static void sealedOrNot() {
        String words = "SEALED: a LID is so, or not any more.";
        Edges.test(words, "tell B00J01J01P01W0101", "seal(1) = 1; joint(1, 2) = 1; joint(0, 2) = 0; seal(1) = 0",
            "joint(1, 2) = 0; step() = 1");
        Edges.test(words, "tell B00J00J11P01W0101W0101W0101 # one lid for three", "step() = 1; joint(1, 2) = 1",
            "seal(1) = 0; joint(1, 2) = 0",
            "walker(0, 5) = 1; step() = 0; step() = 2; joint(1, 2) = 1; walker(1, 0) = 1; seal(1) = 0; step() = 0",
            "step() = 4; count(6) = 7",
            "count(7) = 7; seal(1) = 0; count(6) = 7 # who is OUT stays so");
    }

    private static void calledBack() {
        String words = "CALLED: a WALKER comes from nowhere, and has gone no STEPS.";
        Edges.test(words, "tell " + STAR, "call(0) = 0; walker(0, 1) = NONE; walker(0, 2) = 0; step() x2",
            "walker(0, 6) = 1; call(0) = 2",
            "walker(0, 0) = 0; walker(0, 1) = NONE; walker(0, 2) = 0; walker(0, 6) = 3 # it may go where it came from",
            "call(0) = 0");
        Edges.test(words, "tell B00J01J01P01W0201", "step() = 0; call(0) = 1; step() = 0; walker(0, 2) = 1",
            "step() = 1 # 2 from then on");
        Edges.test(words, "tell B00J00J11P01W0101", "seal(1) = 1; step() = 0; seal(1) = 0; call(0) = 1; shut(0) = 0",
            "step() = 0",
            "walker(0, 0) = 1; count(6) = 0 # it has gone none, and stays");
        Edges.test(words, "tell " + STAR + "W0900", "step() x2; call(1) = 2; walker(0, 1) = 3; walker(0, 2) = 2",
            "walker(1, 1) = NONE # the other not");
    }

    private static void rowOfActs() {
        Edges.test(ROW, "tell " + RING, "count(8) = 0; step(); count(8) = 1; shut(0); count(8) = 2; seal(1)",
            "count(8) = 3; call(0); count(8) = 4",
            "shut(0); count(8) = 5; seal(1); count(8) = 6; keep(0); hear(0, 0, 1); seed(3); years(5); count(0)",
            "count(8) = 6 # no acts");
        Edges.test(ROW, "tell " + RING, "shut(3) = 0; step() x12; count(8) = 13; step(); count(8) = 14; undo() x13",
            "pipe(3, 2) = 0",
            "undo() = 0; pipe(3, 2) = 1; undo() = STATE # 14: none is forgotten");
        Edges.test(ROW, "tell " + RING, "shut(3) = 0; step() x14; count(8) = 14; undo() x13; count(4) = 1; undo() = 0",
            "count(4) = 0",
            "undo() = STATE; pipe(3, 2) = 0 # 15: the first is forgotten, and stands");
        Edges.test(ROW, "tell " + RING, "shut(3) = 0; seal(3) = 1; step() x14; count(8) = 14; undo() x14",
            "undo() = STATE; count(4) = 0",
            "pipe(3, 2) = 0; joint(3, 2) = 1 # 16: the first two");
        Edges.test(ROW, "tell " + RING, "step() x14; undo() = 13; shut(0) = 0; count(8) = 14; undo() = 13; undo() x12",
            "undo() = 0",
            "count(4) = 0 # what is undone makes room");
        Edges.test(ROW, "tell " + RING, "step() x60; count(8) = 14; undo() x14; count(4) = 46; count(8) = 0",
            "step() x15; count(8) = 14; count(4) = 61",
            "undo() x14; count(4) = 47; undo() = STATE");
        Edges.test(ROW, "tell " + STAR, "step(); call(0) = 1; seal(0) = STATE; shut(3) = UNKNOWN; call(1) = UNKNOWN",
            "count(8) = 2 # refused ones are none");
    }

    private static void lastUndone() {
        String words = "the last one can be undone.";
        Edges.test(words, "tell " + RING, "step() x2; step() = 2; undo() = 2; count(4) = 2; walker(1, 5) = 0",
            "walker(1, 0) = 2; walker(1, 1) = NONE",
            "walker(1, 2) = 0; joint(1, 2) = 0; walker(0, 0) = 0; step() = 2; shut(1) = 0; undo() = 3; pipe(1, 2) = 1",
            "seal(1) = 0",
            "undo() = 3; joint(1, 2) = 1; call(0) = 1; undo() = 3; walker(0, 1) = 0; walker(0, 2) = 1; undo() x2",
            "undo() = 0; undo() = STATE");
        Edges.test(words, "tell " + STAR, "step() x12; call(0) = 9; undo() = 12; walker(0, 2) = 9; undo() x3",
            "walker(0, 2) = 9; undo(); walker(0, 2) = 8");
        Edges.test(words, "tell " + RING, "hear(0, 1, 1) = 1; seed(4) = 0; keep(0) = 0; step(); undo() = 0",
            "count(9) = 1; again(0) = 0; seed(0) = 4");
        Edges.test(words, "tell " + RING, "shut(0) = 0; shut(0) = 1; undo() = 1; pipe(0, 2) = 0; undo() = 0",
            "pipe(0, 2) = 1");
    }

    private static void rightOnes() {
        String words = "One that is OUT is RIGHT, if its JOINT is its own.";
        Edges.test(words, "tell B00J00J11P01W0101W1100 # the second is at no lid, ever", "count(7) = 0; step() = 1",
            "count(6) = 1; count(7) = 1",
            "walker(1, 0) = 0; walker(1, 4) = 0; count(7) = 1 # at its own, but not OUT");
        Edges.test(words, "tell B00J00J11P01W0100 # not its own", "step() = 1; count(6) = 1; count(7) = 0");
        Edges.test(words, "tell B00J01J01P01W0101W1101 # the first takes its own; the second takes the other lid",
            "step() = 3; count(6) = 3; count(7) = 1");
    }

    private static void promises() {
        Edges.test("SHUT: 1 if it is open then, 0. UNKNOWN.", "shut(0) = UNKNOWN",
            "tell B00J00J00J00J00J00J00P01P12P23P34P45P50P02P13",
            "shut(0|7) = 0; shut(0|7) = 1; shut(8|-1|MIN|MAX) = UNKNOWN; count(8) = 4; tell B00J00",
            "shut(0) = UNKNOWN");
        Edges.test("SEALED: 1 if it is so then, 0. UNKNOWN; STATE: it has no LID.", "seal(0) = UNKNOWN",
            "tell B00J01J00J00J00J00J01",
            "seal(0|5) = 1; seal(0|5) = 0; seal(1|4) = STATE; seal(6|-1|MIN|MAX) = UNKNOWN; count(8) = 4");
        Edges.test("CALLED: how far it went. UNKNOWN; STATE: it is OUT.", "call(0) = UNKNOWN; tell " + STAR,
            "call(0) = 0; call(1|-1|MIN|MAX) = UNKNOWN",
            "step() x8; call(0) = 8; step() x9; call(0) = 9; step() x10; call(0) = 9; count(8) = 14",
            "tell B00J00J11P01W0101W0900",
            "step() = 1; call(0) = STATE; call(1) = 1; count(8) = 2; undo() = 1; undo() = 0",
            "call(0) = 0 # not OUT any more");
        Edges.test("The last ACT is undone: how many are left. STATE: there is none.", "undo() = STATE; step()",
            "undo() = 0; undo() = STATE; tell " + STAR,
            "undo() = STATE; step() x20; undo() = 13; undo() x12; undo() = 0; undo() = STATE; count(4) = 6; step()",
            "net() = 431; undo() = STATE",
            "step(); keep(0); again(0) = 1; undo() = STATE; count(4) = 1");
    }
}
