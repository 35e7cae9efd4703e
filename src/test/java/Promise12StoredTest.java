/** Promise 12, stored. */
public final class Promise12StoredTest {
    private static final Check check = new Check("Promise 12");

    public static void main(String[] args) {
        deviceItself();
        whileDown();
        firstAndLastSector();
        zeroWhenSectorIsNone();
        zeroWhenWordIsNone();
        check.end();
    }

    private static void deviceItself() {
        Run x = check.run("Word w of sector s of the device itself");
        x.direct(0, 0, 1, true);
        x.direct(0, 1, 2, true);
        x.stores(0, 0, 0, 0, 0);
        x.checkpoint(0);
        x.stores(0, 0, 0, 0, 0);
        x.step(1, 1);
        x.stores(0, 1, 2, 0, 0);
        x.finish();
        x.put(0, 2, 3, true);
        x.stores(0, 1, 2, 0, 0);
        x.commitWhole(3);
        x.stores(0, 1, 2, 0, 0);
        x.checkpointWhole(1);
        x.stores(0, 1, 2, 3, 0);
    }

    private static void whileDown() {
        for (Closed closed : Closed.values()) {
            Run x = check.run("the device itself: while the volume is down or a job runs too: " + closed);
            closed.reach(x, 1);
            x.stored(Run.HEAD, 0, Run.MARK);
            x.stored(Run.log(0), 2, 1);
            x.stored(3, 0, 0);
            x.stored(1, 0, 0);
            x.stored(Run.log(3), 0, 0);
        }
    }

    private static void firstAndLastSector() {
        Run x = check.run("s is 0 .. 40, w is 0 .. 3: the first and the last");
        x.moveTo(22);
        for (int w = 0; w < 4; w++) {
            x.put(0, w, 7 + w, true);
        }
        x.commit(3);
        x.step(2, 2);
        x.stores(40, 0, 0, 0, 0);
        x.finish();
        x.stores(40, 7, 8, 9, 10);
        x.stores(0, 0, 0, 0, 0);
        x.checkpointWhole(1);
        x.stores(0, 7, 8, 9, 10);
    }

    private static void zeroWhenSectorIsNone() {
        Run x = check.run("stored: 0 when s is not 0 .. 40");
        x.moveTo(22);
        for (int w = 0; w < 4; w++) {
            x.put(0, w, 7, true);
        }
        x.commitWhole(3);
        x.checkpointWhole(1);
        for (int s : Run.NO_SECTOR) {
            x.stores(s, 0, 0, 0, 0);
        }
    }

    private static void zeroWhenWordIsNone() {
        Run x = check.run("stored: 0 when w is not 0 .. 3");
        for (int b = 0; b < 3; b++) {
            for (int w = 0; w < 4; w++) {
                x.direct(b, w, 7, true);
            }
        }
        x.checkpointWhole(0);
        for (int w : Run.NO_WORD) {
            x.stored(0, w, 0);
            x.stored(1, w, 0);
            x.stored(2, w, 0);
            x.stored(15, w, 0);
            x.stored(16, w, 0);
            x.stored(40, w, 0);
        }
    }
}
