/** Each sentence of the document that names an edge, by a test of its own; no sentence is left without one. */
public final class Edges {
    private static final Document DOCUMENT = new Document();

    public static void main(String[] args) {
        EdgesOfText.all();
        EdgesOfWalks.all();
        EdgesOfActs.all();
        EdgesAhead.all();
        EdgesOfChance.all();
        EdgesOfSlots.all();
        for (String words : DOCUMENT.leftOut()) {
            Script.wrong++;
            System.out.println("no test stands under: " + words);
        }
        System.out.println(Script.asked + " answers asked for, " + Script.wrong + " not as due");
        if (Script.wrong != 0) System.exit(1);
    }

    /** A run of calls on a new object, under the document's words that ask for its answers. */
    static void test(String words, String... lines) {
        if (!DOCUMENT.quote(words)) {
            Script.wrong++;
            System.out.println("the document does not say, or says twice: " + words);
        }
        new Script(words).run(lines);
    }

    /** Texts with their faults ("B0 = 2"), each on a new object; whether it can be a net must follow. */
    static void faults(String words, String... texts) {
        for (String told : texts) {
            String[] sides = told.split(" = ");
            String typed = sides[0].isEmpty() ? "wipe() = 0" : "type " + sides[0];
            if (sides[1].equals("NONE")) test(words, typed, "fault() = NONE", "tell " + sides[0]);
            else test(words, typed, "fault() = " + sides[1], "net() = STATE");
        }
    }
}
