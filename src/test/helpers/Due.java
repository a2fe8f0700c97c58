/** What the tests share: the comparison of an answer with the one that is due. */
final class Due {
    private static final int MOST_LINES = 100;
    private static int wrong = 0;
    private static String sentence = "";

    private Due() {
    }

    /** The document's words that the following answers are about. */
    static void sentence(String words) {
        sentence = words;
    }

    static void is(String call, long got, long want) {
        if (got != want) {
            tell(call + " answered " + got + ", due is " + want);
        }
    }

    static void holds(String what, boolean holds) {
        if (!holds) {
            tell(what);
        }
    }

    private static void tell(String what) {
        wrong++;
        if (wrong <= MOST_LINES) {
            System.out.println(sentence.isEmpty() ? what : "[" + sentence + "] " + what);
        }
    }

    static void end() {
        System.out.println(wrong == 0 ? "all answers are as due" : wrong + " answers are not as due");
        if (wrong != 0) {
            System.exit(1);
        }
    }
}
