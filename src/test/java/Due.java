/** Counts and prints the answers that are not the ones that are due. */
final class Due {
    private final String title;
    private int checked;
    private int wrong;

    Due(String title) {
        this.title = title;
    }

    void equal(String call, long got, long want) {
        checked++;
        if (got != want) {
            wrong++;
            System.out.println(title + ": " + call + " answered " + got + ", due is " + want);
        }
    }

    boolean hasWrong() {
        return wrong > 0;
    }

    void finish() {
        System.out.println(title + ": " + checked + " answers, " + wrong + " wrong");
        if (wrong > 0) {
            System.exit(1);
        }
    }
}
