/** Counts and prints the answers that are not the ones that are due. */
final class Check {
    private final String test;
    private int asked = 0;
    private int wrong = 0;

    Check(String test) {
        this.test = test;
    }

    void due(String what, long got, long want) {
        asked++;
        if (got != want) {
            wrong++;
            System.out.println(test + ": " + what + " answered " + got + ", due is " + want);
        }
    }

    void due(String what, boolean got, boolean want) {
        due(what, got ? 1 : 0, want ? 1 : 0);
    }

    /** The four words of a sector of the device itself. */
    void dueStored(String what, RedoShelf x, int sector, int... want) {
        for (int w = 0; w < 4; w++) {
            due(what + ": stored(" + sector + ", " + w + ")", x.stored(sector, w), want[w]);
        }
    }

    /** The four words of a sector as a read gives them. */
    void dueRead(String what, RedoShelf x, int sector, int... want) {
        for (int w = 0; w < 4; w++) {
            due(what + ": read(" + sector + ", " + w + ")", x.read(sector, w), want[w]);
        }
    }

    int wrong() {
        return wrong;
    }

    void end() {
        System.out.println(test + ": " + asked + " answers, " + wrong + " not as due");
        if (wrong != 0 || asked == 0) {
            System.exit(1);
        }
    }
}
