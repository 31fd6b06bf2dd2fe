/** Counts answers that are not as due, and prints the first of them of each sentence. */
final class Due {
    private static final int MOST_PRINTED = 30;
    private int wrong;
    private int printed;
    private int asked;
    private String sentence = "";

    /** The sentence of the document that the following answers are due to. */
    void sentence(String words) {
        sentence = words + " | ";
        printed = 0;
    }

    void is(String call, long got, long want) {
        asked++;
        if (got != want) {
            wrong++;
            printed++;
            if (printed <= MOST_PRINTED) {
                System.out.println(sentence + call + " answered " + got + ", due is " + want);
            }
        }
    }

    void is(String call, boolean got, boolean want) {
        is(call, got ? 1 : 0, want ? 1 : 0);
    }

    void end(String test) {
        System.out.println(test + ": " + asked + " answers, " + wrong + " wrong");
        if (wrong != 0 || asked == 0) {
            System.exit(1);
        }
    }
}
