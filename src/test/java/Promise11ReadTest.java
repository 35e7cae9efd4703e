/** Promise 11, read. */
public final class Promise11ReadTest {
    private static final Check check = new Check("Promise 11");

    public static void main(String[] args) {
        newestEntryElseItsOwn();
        whileDown();
        firstAndLastSector();
        zeroWhenSectorIsNone();
        zeroWhenWordIsNone();
        check.end();
    }

    private static void newestEntryElseItsOwn() {
        Run x = check.run("the words of its newest entry in the cache, or, if it has none, its own");
        x.direct(1, 0, 4, true);
        x.checkpointWhole(0);
        x.read(1, 0, 4);
        x.direct(0, 0, 1, true);
        x.direct(1, 0, 5, true);
        x.direct(0, 0, 2, true);
        x.direct(2, 3, 7, true);
        x.reads(0, 2, 0, 0, 0);
        x.reads(1, 5, 0, 0, 0);
        x.reads(2, 0, 0, 0, 7);
        x.reads(3, 0, 0, 0, 0);
        x.reads(Run.HEAD, Run.MARK, 1, 0, 0);
        x.crash(1, 4, 3);
        x.reads(0, 1, 0, 0, 0);
        x.reads(1, 4, 0, 0, 0);
    }

    private static void whileDown() {
        for (Closed closed : Closed.values()) {
            Run x = check.run("as a read gives it: while the volume is down or a job runs too: " + closed);
            closed.reach(x, 1);
            x.read(Run.HEAD, 0, Run.MARK);
            x.read(Run.log(0), 2, 1);
            x.read(3, 0, closed.isDown() ? 0 : 30);
            x.read(1, 0, closed == Closed.CHECKPOINT || closed == Closed.RECOVERY ? 10 : 0);
            x.read(Run.log(3), 0, closed == Closed.COMMIT ? Run.MARK : 0);
        }
    }

    private static void firstAndLastSector() {
        Run x = check.run("s is 0 .. 40, w is 0 .. 3: the first and the last");
        x.moveTo(22);
        for (int w = 0; w < 4; w++) {
            x.put(0, w, 7 + w, true);
        }
        x.commit(3);
        x.step(2, 2);
        x.reads(40, 7, 8, 9, 10);
        x.stores(40, 0, 0, 0, 0);
        x.finish();
        x.checkpointWhole(1);
        x.reads(0, 7, 8, 9, 10);
        x.reads(40, 7, 8, 9, 10);
    }

    private static void zeroWhenSectorIsNone() {
        Run x = check.run("read: 0 when s is not 0 .. 40");
        x.moveTo(22);
        for (int w = 0; w < 4; w++) {
            x.put(0, w, 7, true);
        }
        x.commitWhole(3);
        x.checkpointWhole(1);
        x.direct(0, 0, 8, true);
        for (int s : Run.NO_SECTOR) {
            x.reads(s, 0, 0, 0, 0);
        }
    }

    private static void zeroWhenWordIsNone() {
        Run x = check.run("read: 0 when w is not 0 .. 3");
        for (int b = 0; b < 3; b++) {
            for (int w = 0; w < 4; w++) {
                x.direct(b, w, 7, true);
            }
        }
        for (int w : Run.NO_WORD) {
            x.read(0, w, 0);
            x.read(1, w, 0);
            x.read(2, w, 0);
            x.read(15, w, 0);
            x.read(16, w, 0);
            x.read(40, w, 0);
        }
        x.checkpointWhole(0);
        for (int w : Run.NO_WORD) {
            x.read(1, w, 0);
        }
    }
}
