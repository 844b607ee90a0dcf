/** Counts and prints the answers that are not the ones that are due. */
final class Due {
    private String sentence = "";
    private int checked;
    private int wrong;

    /** Says which words of the document the next answers are about. */
    void about(String words) {
        sentence = words + ": ";
    }

    void equal(String call, long got, long want) {
        checked++;
        if (got != want) {
            wrong++;
            System.out.println(sentence + call + " answered " + got + ", due is " + want);
        }
    }

    boolean hasWrong() {
        return wrong > 0;
    }

    void finish() {
        System.out.println(checked + " answers, " + wrong + " wrong");
        if (wrong > 0) {
            System.exit(1);
        }
    }
}
