/** Counts and prints the answers that are not the ones that are due. */
final class Check {
    private final String test;
    private int asked = 0;
    private int wrong = 0;

    Check(String test) {
        this.test = test;
    }

    /** A new object, for a test of this sentence of the document. */
    Run run(String sentence) {
        return new Run(this, sentence);
    }

    void due(String what, long got, long want) {
        asked++;
        if (got != want) {
            wrong++;
            System.out.println(test + ": " + what + " answered " + got + ", due is " + want);
        }
    }

    void due(String what, boolean got, boolean want) {
        due(what, got ? 1 : 0, want ? 1 : 0);
    }

    /** Stands where the test of a sentence would stand, if a run of calls could reach its case. */
    void unreachable(String sentence, String reason) {
        System.out.println(test + ": no run of calls reaches '" + sentence + "': " + reason);
    }

    int wrong() {
        return wrong;
    }

    void end() {
        System.out.println(test + ": " + asked + " answers, " + wrong + " not as due");
        if (wrong != 0 || asked == 0) {
            System.exit(1);
        }
    }
}
