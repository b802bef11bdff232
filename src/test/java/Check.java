/** Prints each answer that is not the one that is due, and counts them. */
final class Check {
    private static int wrong = 0;
    private static int looked = 0;
    private static String sentence = "";

    private Check() {
    }

    /** The document's sentence that the answers from here on are looked at for. */
    static void sentence(String told) {
        sentence = told;
    }

    /** As due, told with the sentence. */
    static void is(String call, long got, long want) {
        due("[" + sentence + "] " + call, got, want);
    }

    static void due(String call, long got, long want) {
        looked++;
        if (got != want) {
            wrong++;
            System.out.println(call + " answered " + got + ", due is " + want);
        }
    }

    static void isTrue(String what, boolean holds) {
        due(what, holds ? 1 : 0, 1);
    }

    /** Ends the machine, with 1 if an answer was wrong. */
    static void end() {
        System.out.println(looked + " answers looked at, " + wrong + " wrong");
        System.exit(wrong == 0 ? 0 : 1);
    }
}
