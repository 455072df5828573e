/** Edges of the terms, of THE TEXT and of how a NET is told: part 1 up to FAULT, promises 1 to 5. */
final class EdgesOfText {
    /** A ring 0-1-2-3, lids at 1, 2, 3; walker 1 is out at 1 in the 3rd step, walker 0 at 2, its own, in the 4th. */
    private static final String RING = "B52J60J31J81J11P01P12P23P30W0212W2100";
    private static final String SIX_JOINTS = "J01J01J01J01J01J01", EIGHT_PIPES = "P01P12P23P34P45P50P02P13";
    private static final String FOUR_WALKERS = "W0100W0100W0100W1101";

    private EdgesOfText() {}

    static void all() {
        firstRefusal();
        noSuchOne();
        refusedChangesNothing();
        noneIs();
        fractions();
        sixtyLetters();
        beginning();
        howMany();
        joints();
        pipes();
        walkers();
        faultPlaces();
        madeAnew();
        promises();
    }

    private static void firstRefusal() {
        String words = "REFUSALS, of several the first that a call names: ";
        Edges.test(words, "tell " + RING,
            "joint(4, 5) = UNKNOWN; pipe(4, 3) = UNKNOWN; walker(2, 8) = UNKNOWN; comes(2, 2) = UNKNOWN",
            "hear(2, 0, 0) = UNKNOWN; hear(0, 4, 10) = UNKNOWN; hear(2, 4, 0) = UNKNOWN",
            "rests(2, 2, 2) = UNKNOWN; rests(0, 2, 2) = UNKNOWN; rests(2, 0, -1) = UNKNOWN; rests(0, 0, 2) = OUTSIDE",
            "flood(2, 0, 11, true) = UNKNOWN; flood(2, 0, 11, false) = UNKNOWN; flood(2, 1, 11, true) = UNKNOWN",
            "again(2) = UNKNOWN # none were kept either",
            "hear(0, 0, 1) x6; hear(0, 0, 0) = OUTSIDE; hear(0, 4, 1) = UNKNOWN; hear(2, 0, 1) = UNKNOWN",
            "hear(2, 4, 0) = UNKNOWN; hear(0, 0, 1) = FULL");
        Edges.test(words, "write(66) x60; write(256) = OUTSIDE; write(-1) = OUTSIDE; write(66) = FULL");
    }

    private static void noSuchOne() {
        String words = "UNKNOWN (there is no such JOINT, PIPE, WALKER, SLOT), OUTSIDE (another number is not as told), "
            + "STATE (as told), FULL.";
        Edges.test(words, "joint(0|-1|MIN|MAX, 0) = UNKNOWN; pipe(0|-1|MIN|MAX, 0) = UNKNOWN",
            "walker(0|-1|MIN|MAX, 0) = UNKNOWN; shut(0|-1|MIN|MAX) = UNKNOWN; seal(0|-1|MIN|MAX) = UNKNOWN",
            "call(0|-1|MIN|MAX) = UNKNOWN; comes(0|-1|MIN|MAX, 0) = UNKNOWN; way(0|-1|MIN|MAX, 0) = UNKNOWN",
            "mend(0|-1|MIN|MAX) = UNKNOWN; hear(0|-1|MIN|MAX, 0, 1) = UNKNOWN; turning(0|-1|MIN|MAX) = UNKNOWN",
            "share(0|-1|MIN|MAX, true|false) = UNKNOWN; rests(0|-1|MIN|MAX, 1, 0) = UNKNOWN",
            "flood(0|-1|MIN|MAX, 1, 0, true|false) = UNKNOWN");
        Edges.test(words, "tell B00J01W0100 # one of each, but of pipes none",
            "joint(0, 1) = 1; joint(1|-1, 1) = UNKNOWN; pipe(0, 0) = UNKNOWN; walker(0, 0) = 0",
            "walker(1|-1, 0) = UNKNOWN",
            "shut(0) = UNKNOWN; seal(0) = 1; seal(1|-1) = UNKNOWN; call(0) = 0; call(1|-1) = UNKNOWN",
            "comes(0, 0) = NONE; comes(1|-1, 0) = UNKNOWN; way(0, 0) = 0; way(0, 1|-1) = UNKNOWN",
            "way(1|-1, 0) = UNKNOWN",
            "mend(0) = NONE; mend(1|-1) = UNKNOWN; hear(0, 0, 1) = 1; hear(1|-1, 0, 1) = UNKNOWN",
            "hear(0, 1|-1, 1) = UNKNOWN; turning(0) = 15; turning(1|-1) = UNKNOWN",
            "share(0, true) = 0; share(0, false) = 1; share(1|-1, true|false) = UNKNOWN",
            "rests(0, 1|-1, 0) = UNKNOWN; rests(1|-1, 0, 0) = UNKNOWN",
            "flood(0, 1, 0, true) = 0; flood(0, 1, 0, false) = 1; flood(1|-1, 1, 0, true|false) = UNKNOWN",
            "keep(0) = 0; again(0) = 0; keep(1) = 0; again(1) = 0; keep(2|-1|MIN|MAX) = UNKNOWN",
            "again(2|-1|MIN|MAX) = UNKNOWN");
        Edges.test(words, "tell B00" + SIX_JOINTS + EIGHT_PIPES,
            "joint(5, 1) = 1; joint(6|7|31|32|37|64|-1|-27|MIN|MAX, 1) = UNKNOWN",
            "pipe(7, 0) = 1; pipe(8|9|31|32|39|64|-1|-25|MIN|MAX, 0) = UNKNOWN",
            "shut(7) = 0; shut(8|9|31|32|39|64|-1|-25|MIN|MAX) = UNKNOWN",
            "seal(5) = 1; seal(6|7|31|32|37|64|-1|-27|MIN|MAX) = UNKNOWN",
            "way(5, 4) = 1; way(5, 6|7|32|-1|MIN|MAX) = UNKNOWN; way(6|7|32|-1|MIN|MAX, 5) = UNKNOWN",
            "way(6, 6) = UNKNOWN");
        Edges.test(words, "tell B00J01J01" + FOUR_WALKERS,
            "walker(3, 0) = 1; walker(4|5|31|32|35|-1|-29|MIN|MAX, 0) = UNKNOWN",
            "call(3) = 0; call(4|5|31|32|35|-1|-29|MIN|MAX) = UNKNOWN",
            "comes(3, 0) = NONE; comes(4|5|32|-1|MIN|MAX, 0) = UNKNOWN; mend(3) = NONE",
            "mend(4|5|32|-1|MIN|MAX) = UNKNOWN",
            "hear(3, 1, 1) = 1; hear(4|5|32|-1|MIN|MAX, 1, 1) = UNKNOWN; hear(3, 2|3|32|-1|MIN|MAX, 1) = UNKNOWN",
            "turning(3) = 15; turning(4|5|32|-1|MIN|MAX) = UNKNOWN",
            "share(3, true) = 0; share(3, false) = 1; share(4|5|32|-1|MIN|MAX, true|false) = UNKNOWN",
            "rests(3, 2, 0) = 2; rests(4|5|32|-1|MIN|MAX, 0, 0) = UNKNOWN; rests(0, 4|5|32|-1|MIN|MAX, 0) = UNKNOWN",
            "flood(3, 1, 5, true) = 0; flood(4|5|32|-1|MIN|MAX, 1, 5, true|false) = UNKNOWN");
    }

    /** Each refusal there is, where there is much that could be changed; the script looks whether anything was. */
    private static void refusedChangesNothing() {
        String words = "What is refused changes nothing.";
        String[] much = {"tell " + RING, "keep(0) = 0; step() x3; shut(1) = 0; seal(3) = 1; keep(1) = 3; call(0) = 1",
            "hear(0, 1, 1) = 1; hear(0, 0, 9) = 2; seed(5) = 0"};
        Edges.test(words, much[0], much[1], much[2],
            "write(-1|256|MIN|MAX) = OUTSIDE; joint(4, 0) = UNKNOWN; joint(0, 5) = OUTSIDE; pipe(4, 0) = UNKNOWN",
            "pipe(0, 3) = OUTSIDE; walker(2, 0) = UNKNOWN; walker(0, 8) = OUTSIDE; shut(4|-1) = UNKNOWN",
            "seal(4|-1) = UNKNOWN; seal(0) = STATE; call(2|-1) = UNKNOWN; call(1) = STATE; ahead(31|-1, 0) = OUTSIDE",
            "ahead(0, 2) = OUTSIDE; comes(2, 0) = UNKNOWN; comes(0, 2) = OUTSIDE; way(0, 4) = UNKNOWN",
            "mend(2) = UNKNOWN",
            "mend(1) = STATE; judge(0|5, 0) = OUTSIDE; judge(1, -1|100) = OUTSIDE; hear(2, 0, 1) = UNKNOWN",
            "hear(0, 4, 1) = UNKNOWN; hear(0, 0, 0|10) = OUTSIDE; turning(2) = UNKNOWN; turning(1) = STATE",
            "share(2, true) = UNKNOWN; rests(0, 2, 0) = UNKNOWN; rests(0, 0, 0) = OUTSIDE; rests(0, 1, 2) = OUTSIDE",
            "flood(2, 1, 1, true) = UNKNOWN; flood(0, 0|7, 1, true) = OUTSIDE; flood(0, 1, -1|11, true) = OUTSIDE",
            "years(0|31|MIN|MAX) = OUTSIDE; keep(2|-1) = UNKNOWN; again(2|-1) = UNKNOWN; count(10|-1) = OUTSIDE",
            "type W; net() = STATE; wipe() = 38; net() = STATE");
        Edges.test(words, much[0], much[1], much[2], "hear(0, 0, 1) x4; hear(0, 0, 1) = FULL; hear(1, 1, 2) = FULL",
            "type " + "J".repeat(23), "write(74) = FULL",
            "net() = STATE # and the row, what was kept, what was heard stay");
        Edges.test(words, "tell " + RING, "seal(1) = 1; step() x13; count(8) = 14",
            "shut(4) = UNKNOWN; seal(0) = STATE; seal(4) = UNKNOWN; call(2) = UNKNOWN # no act is forgotten for them",
            "undo() x13; undo() = 0; joint(1, 2) = 0; undo() = STATE; undo() = STATE; count(8) = 0");
        Edges.test(words, "tell " + RING, "step() x3; keep(0) = 3; step(); again(1) = STATE # the row is not emptied",
            "count(8) = 4; undo() = 3");
    }

    private static void noneIs() {
        Edges.test("NONE is -9.", "tell B00J00J00W0900W0900 # two joints apart, no lids", "fault() = -9",
            "walker(0, 1) = -9; walker(0, 6) = -9; comes(0, 0|1) = -9",
            "way(0, 1) = -9; mend(0) = -9; judge(1, 0) = -9; rests(0, 1, 1) = -9");
    }

    private static void fractions() {
        String words = "FRACTIONS are told above (upper = true; below 0, if they are), below (1 and more), in least terms; "
            + "refusals of them are told likewise.";
        Edges.test(words, "tell B00J00J11P01W0100W0101 # the first takes the lid that is the other one's own",
            "share(0, true) = -1; share(0, false) = 2; share(1, true) = 1; share(1, false) = 2",
            "share(2|-1, true) = UNKNOWN; share(2|-1, false) = UNKNOWN");
        Edges.test(words,
            "tell B00J00J11P01W0100W0101W0101 # in six orders it takes 4 away: 4 sixths, and they have 2 each",
            "share(0, true) = -2; share(0, false) = 3; share(1|2, true) = 1; share(1|2, false) = 3");
        Edges.test(words, "tell B00J00J11P01W0101 # a whole one, and none at all, are told over 1",
            "share(0, true) = 1; share(0, false) = 1; seal(1) = 1; share(0, true) = 0; share(0, false) = 1");
        Edges.test(words, "tell B52J90J31P01W0101 # it is out as soon as one tide is low",
            "flood(0, 1, 5, true) = 1; flood(0, 1, 5, false) = 2; flood(0, 3, 5, true) = 7; flood(0, 3, 5, false) = 8",
            "flood(0, 6, 10, true) = 0; flood(0, 6, 10, false) = 1; flood(0, 6, 0, true) = 1",
            "flood(0, 6, 0, false) = 1",
            "flood(0, 6, 9, true) = 468559",
            "flood(0, 6, 9, false) = 1000000 # 9 tenths six times are 531441 of a million",
            "flood(1, 1, 1, true) = UNKNOWN; flood(1, 1, 1, false) = UNKNOWN",
            "flood(0, 0|7, 1, true) = OUTSIDE; flood(0, 0|7, 1, false) = OUTSIDE",
            "flood(0, 1, -1|11, true) = OUTSIDE; flood(0, 1, -1|11, false) = OUTSIDE");
    }

    private static void sixtyLetters() {
        Edges.test("THE TEXT is letters (60 at most).", "count(0) = 0; wipe() = 0; type " + "J".repeat(59),
            "count(0) = 59; write(74) = 60; write(74) = FULL; count(0) = 60; wipe() = 60; count(0) = 0; write(66) = 1");
        Edges.test("THE TEXT is letters (60 at most).",
            "tell B00" + SIX_JOINTS + EIGHT_PIPES + "W0100W0100W0100 # a net of 60 letters", "count(0) = 60",
            "fault() = NONE");
    }

    private static void beginning() {
        String words = "A NET is a TEXT: B, the HIGH tide (0 to 9), the LOW one (0 to 9), then PARTS, none or more; ";
        Edges.faults(words, "B00 = NONE", "B99 = NONE", "B09 = NONE", "B90 = NONE", "B/0 = 1", "B:0 = 1", "B0/ = 2",
            "B0: = 2",
            "b00 = 0", "A00 = 0", "C00 = 0", "000 = 0", "J00 = 0", "B000 = 3", "B00B = 3", "B00B00 = 3", "B00j = 3",
            "B00I = 3",
            "B00K = 3", "B00O = 3", "B00Q = 3", "B00V = 3", "B00X = 3", "B\0000 = 1", "B0\u00ff = 2", "\u0000 = 0",
            "\u00c200 = 0", "B00\u00ca00 = 3", "B\u00b00 = 1");
        Edges.test(words, "tell B90", "count(5) = 9; step() x2; count(5) = 0; tell B09", "count(5) = 0; step() x2",
            "count(5) = 9");
        Edges.test(words, "type B00", "net() = 0; count(1) = 0; count(2) = 0; count(3) = 0 # parts: none");
    }

    private static void howMany() {
        String words = "JOINTS (6 at most), PIPES (8 at most), WALKERS (4 at most) are numbered as they are told, each for itself: ";
        Edges.faults(words, "B00" + SIX_JOINTS + " = NONE", "B00" + SIX_JOINTS + "J = 21",
            "B00" + SIX_JOINTS + "J00 = 21",
            "B00" + SIX_JOINTS + EIGHT_PIPES + " = NONE", "B00" + SIX_JOINTS + EIGHT_PIPES + "P = 45",
            "B00" + SIX_JOINTS + EIGHT_PIPES + "P24 = 45", "B00J00J00" + FOUR_WALKERS + " = NONE",
            "B00J00J00" + FOUR_WALKERS + "W = 29", "B00J00J00" + FOUR_WALKERS + "W0100 = 29",
            "B00J00J00" + FOUR_WALKERS + "J00 = NONE", "B00" + SIX_JOINTS + EIGHT_PIPES + "W0100 = NONE",
            "B00" + SIX_JOINTS + "P01W5105 = NONE");
        Edges.test(words, "tell B00J10W0100J21P10J30W2112P20W1131 # parts in mixed order",
            "count(1) = 3; count(2) = 2; count(3) = 3; joint(0, 0) = 1; joint(1, 0) = 2; joint(2, 0) = 3",
            "pipe(0, 0) = 1; pipe(0, 1) = 0; pipe(1, 0) = 2; pipe(1, 1) = 0",
            "walker(0, 0) = 0; walker(1, 0) = 2; walker(2, 0) = 1");
    }

    private static void joints() {
        String words = "Jlk a JOINT of LEVEL l (0 to 9), of KIND k: 0 plain, 1 with a LID ";
        Edges.faults(words, "B00J00 = NONE", "B00J91 = NONE", "B00J/0 = 4", "B00J:0 = 4", "B00J0/ = 5", "B00J02 = 5",
            "B00J09 = 5",
            "B00JJ = 4", "B00J0J = 5", "B00J = 4", "B00J9 = 5", "B00J0\u00ff = 5");
        Edges.test(words, "tell B00J00J91", "joint(0, 0) = 0; joint(0, 1) = 0; joint(1, 0) = 9; joint(1, 1) = 1",
            "seal(0) = STATE; seal(1) = 1");
    }

    private static void pipes() {
        String words = "Pij a PIPE between JOINTS i and j (both told ahead, not one; each two once, in whichever order) ";
        Edges.faults(words, "B00P = 3", "B00P01J00J00 = 3", "B00J00P = 6", "B00J00P01J00 = 6", "B00J00J00P = 10",
            "B00J00J00P0 = 11",
            "B00J00J00P01 = NONE", "B00J00J00P10 = NONE", "B00J00J00P2 = 10", "B00J00J00P02J00 = 11",
            "B00J00J00P20J00 = 10",
            "B00J00J00P00 = 11", "B00J00J00P11 = 11", "B00J00J00P/ = 10", "B00J00J00P: = 10", "B00J00J00P0/ = 11",
            "B00J00J00J00P01P01 = 17", "B00J00J00J00P01P10 = 17", "B00J00J00J00P10P01 = 17",
            "B00J00J00J00P01P12P20 = NONE",
            "B00" + SIX_JOINTS + "P56 = 23", "B00" + SIX_JOINTS + "P6 = 22", "B00" + SIX_JOINTS + "P54P45 = 26");
    }

    private static void walkers() {
        String words = "Wjstf a WALKER at JOINT j, that goes s (1 to 9) STEPS at least, TURNS t: 0 UP, 1 DOWN, 2 ROUND, 3 BACK, "
            + "whose own JOINT is f (j, f told ahead) ";
        Edges.faults(words, "B00W = 3", "B00W0100J00 = 3", "B00J00W = 7", "B00J00W0 = 8", "B00J00W01 = 9",
            "B00J00W010 = 10",
            "B00J00W0100 = NONE", "B00J00J00W1931 = NONE", "B00J00J00W2931 = 10", "B00J00J00W1932 = 13",
            "B00J00W1100J00 = 7",
            "B00J00W0101J00 = 10", "B00J00W/ = 7", "B00J00W: = 7", "B00J00W00 = 8", "B00J00W0/ = 8", "B00J00W0: = 8",
            "B00J00W0900 = NONE", "B00J00W0130 = NONE", "B00J00W014 = 9", "B00J00W01/ = 9", "B00J00W010/ = 10",
            "B00J00W010: = 10",
            "B00" + SIX_JOINTS + "W5105 = NONE", "B00" + SIX_JOINTS + "W6 = 22", "B00" + SIX_JOINTS + "W5106 = 25");
        Edges.test(words, "tell B00J00J00W1900W0131", "walker(0, 0) = 1; walker(0, 7) = 9; walker(0, 3) = 0",
            "walker(0, 4) = 0",
            "walker(1, 0) = 0; walker(1, 7) = 1; walker(1, 3) = 3; walker(1, 4) = 1");
    }

    private static void faultPlaces() {
        String most = "B00" + SIX_JOINTS + EIGHT_PIPES;
        Edges.faults("FAULT: the place of the first letter by which THE TEXT can be no NET, whatever came behind it (its length set aside); ",
            "X = 0", "XB00 = 0", "B0X0Y = 2", "B00J0XX = 5", "B00XJ00 = 3",
            // A pipe that could join no two any more, or a joint that is joined to all the others.
            "B00J00J00P01P = 12", "B00J00J00P01J00P = 16", "B00J00J00P01J00P0 = 17", "B00J00J00P01J00P01 = 17",
            "B00J00J00J00P01P02P0 = 19", "B00J00J00J00P01P02P1 = 20", "B00J00J00J00P01P02P10 = 20",
            "B00J00J00J00P01P02P12P = 21",
            "B00J00J00J00J00P01P02P03P0 = 25", "B00J00J00J00J00P01P02P03J00P0 = 29",
            "B00J00J00J00J00P01P02P03J00P04 = NONE",
            "B00J00J00J00J00P01P02P03P12P13P23P = 33", "B00J00J00J00J00P01P02P03P12P13P23J00P = 37",
            // The last letter there can be: a fault, or a part begun whose end has no room.
            most + "W0100W0100W0109 = 59", most + "W0100W0100W0100 = NONE",
            most.substring(0, 42) + "W0100W0100W0100W01 = 60",
            most.substring(0, 42) + "W0100W0100W0100W00 = 59", most.substring(0, 39) + "W0100W0100W0100W0100P = 60",
            most.substring(0, 39) + "W0100W0100W0100W0100W = 59");
        Edges.faults("its length, if it is only not at its end; NONE: none.", " = 0", "B = 1", "B0 = 2", "B00 = NONE",
            "B00J = 4",
            "B00J0 = 5", "B00J00 = NONE", "B00J00J00P = 10", "B00J00J00P0 = 11", "B00J00J00P01 = NONE", "B00J00W = 7",
            "B00J00W0 = 8",
            "B00J00W01 = 9", "B00J00W010 = 10", "B00J00W0100 = NONE", most + "W0100W0100W010 = 59");
    }

    private static void madeAnew() {
        Edges.test("At first both tides are 0, there is nothing.", "count(5) = 0; count(1|2|3|4|6|7|8|9) = 0",
            "joint(0, 0) = UNKNOWN",
            "pipe(0, 0) = UNKNOWN; walker(0, 0) = UNKNOWN; step() x2; count(5) = 0 # low now");
        String words = "THE CLOCK is 0, PIPES are open, LIDS are not SEALED, nobody has gone a STEP, comes from anywhere, is OUT, "
            + "when THE NET is made anew.";
        Edges.test(words, "tell " + RING, "step() x4; shut(0) = 0; seal(3) = 1; count(6) = 3; count(7) = 1",
            "net() = 442",
            "count(4) = 0; pipe(0|1|2|3, 2) = 1; joint(0|1|2|3, 2) = 0; walker(0|1, 2) = 0; walker(0|1, 1) = NONE",
            "walker(0|1, 5) = 0; count(6) = 0; count(7) = 0; walker(0, 0) = 0; walker(1, 0) = 2; step() x2",
            "step() = 2");
        Edges.test(words, "tell " + RING, "count(4) = 0; pipe(0|1|2|3, 2) = 1; joint(0|1|2|3, 2) = 0",
            "walker(0|1, 2) = 0",
            "walker(0|1, 1) = NONE; count(6) = 0");
        Edges.test(words, "tell " + RING, "tell B00 # smaller than the one ahead of it", "count(1|2|3) = 0",
            "joint(0, 0) = UNKNOWN",
            "pipe(0, 0) = UNKNOWN; walker(0, 0) = UNKNOWN; step() = 0; tell " + RING, "walker(0, 0) = 0",
            "pipe(3, 2) = 1");
    }

    private static void promises() {
        Edges.test("No joints, nobody.", "count(0|1|2|3|4|5|6|7|8|9) = 0; fault() = 0; net() = STATE; undo() = STATE",
            "watch() = 0",
            "ahead(0|30, 0|1) = 0; judge(4, 0) = NONE; judge(1, 10|20|30|40) = 0; unhear() = 0; years(30) = 0",
            "again(0|1) = STATE",
            "step() = 0; count(4) = 1; count(8) = 1; undo() = 0; keep(0) = 0; again(0) = 0; again(1) = STATE",
            "wipe() = 0");
        Edges.test("A letter (0 to 255) comes behind THE TEXT: how long it is. OUTSIDE; FULL: there are 60.",
            "write(-1|256|-256|511|MIN|MAX) = OUTSIDE; count(0) = 0; write(0) = 1; write(255) = 2",
            "write(-1|256) = OUTSIDE",
            "write(66) x57; write(66) = 60; write(66|0|255) = FULL; write(-1|256) = OUTSIDE; count(0) = 60");
        Edges.test("A letter (0 to 255) comes behind THE TEXT: how long it is. OUTSIDE; FULL: there are 60.",
            "write(322) = OUTSIDE # 66 and 256", "type B00", "net() = 0; count(0) = 3",
            "write(74) = 4 # THE TEXT stays when it is THE NET");
        Edges.test("THE TEXT is empty: how long it was.", "wipe() = 0; write(66) = 1; wipe() = 1; wipe() = 0",
            "write(66) x60",
            "wipe() = 60; wipe() = 0; fault() = 0; tell " + RING, "step() x3; wipe() = 37; count(0) = 0; fault() = 0",
            "count(4) = 3",
            "count(1) = 4; count(8) = 3; walker(1, 5) = 1 # THE NET stays");
        Edges.test("FAULT; NONE.", "fault() = 0; type B00", "fault() = NONE; type Q", "fault() = 3; wipe() = 4",
            "fault() = 0");
        net();
    }

    private static void net() {
        String words = "THE TEXT is THE NET (THE ROW of ACTS is empty, what was kept is gone; HEARD, THE SEED stay): "
            + "100 times JOINTS, 10 times PIPES, and WALKERS. STATE: a FAULT.";
        Edges.test(words, "net() = STATE; type B", "net() = STATE; type 0", "net() = STATE; type 0", "net() = 0",
            "type J", "net() = STATE",
            "type 01", "net() = 100; type W0100", "net() = 101; type J00P01", "net() = 211; type W", "net() = STATE",
            "count(1) = 2");
        Edges.test(words, "type B00" + SIX_JOINTS + EIGHT_PIPES + "W0100W0100W0100", "net() = 683");
        Edges.test(words, "type B00" + SIX_JOINTS + EIGHT_PIPES.substring(0, 18) + FOUR_WALKERS, "net() = 664");
        Edges.test(words, "tell " + RING, "keep(0) = 0; step() x3; keep(1) = 3; hear(0, 1, 1) = 1; hear(1, 2, 9) = 2",
            "seed(-7) = 0",
            "net() = 442; count(8) = 0; undo() = STATE; again(0|1) = STATE; count(9) = 2; seed(0) = -7; count(4) = 0");
        Edges.test(words, "tell " + RING, "keep(0) = 0; step() x3; keep(1) = 3; type X", "net() = STATE; count(8) = 3",
            "undo() = 2",
            "again(1) = 3; again(0) = 0");
    }
}
