/** Counts the answers that are not as due. */
final class Check {
    private int wrong;
    private int asked;

    void due(String what, long got, long want) {
        asked++;
        if (got != want) {
            wrong++;
            System.out.println(what + " answered " + got + ", due is " + want);
        }
    }

    /** Ends the program with 1, if an answer was wrong. */
    void close() {
        System.out.println((asked - wrong) + " of " + asked + " answers are as due");
        if (wrong != 0 || asked == 0) {
            System.exit(1);
        }
    }
}
