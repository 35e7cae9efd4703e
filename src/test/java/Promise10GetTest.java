/** Promise 10, get. */
public final class Promise10GetTest {
    private static final Check check = new Check("Promise 10");

    public static void main(String[] args) {
        runningElsePendingElseRead();
        revokedBlock();
        duringJobs();
        zeroWhenDown();
        zeroWhenBlockIsNone();
        zeroWhenWordIsNone();
        check.end();
    }

    private static void runningElsePendingElseRead() {
        Run x = check.run("of its running image, else of its pending image, else what a read gives");
        x.direct(3, 0, 1, true);
        x.checkpointWhole(0);
        x.gets(3, 1, 0, 0, 0);
        x.direct(3, 1, 2, true);
        x.gets(3, 1, 2, 0, 0);
        x.put(3, 2, 3, true);
        x.gets(3, 1, 2, 3, 0);
        x.reads(3, 1, 2, 0, 0);
        x.commitWhole(3);
        x.gets(3, 1, 2, 3, 0);
        x.reads(3, 1, 2, 0, 0);
        x.put(3, 0, 9, true);
        x.gets(3, 9, 2, 3, 0);
        x.crash(0, 4, 0);
        x.recoverWhole(1);
        x.gets(3, 1, 2, 3, 0);
    }

    private static void revokedBlock() {
        Run x = check.run("of its pending image: of a block revoked too, until the commit");
        x.put(3, 0, 2, true);
        x.commitWhole(3);
        x.revoke(3, true);
        x.get(3, 0, 2);
        x.commit(2);
        x.stepUntil(1);
        x.get(3, 0, 2);
        x.finish();
        x.get(3, 0, 0);
    }

    private static void duringJobs() {
        Run x = check.run("Word w of block b as the volume has it: while it is up and a job runs");
        x.put(0, 0, 5, true);
        x.put(15, 3, 6, true);
        x.commit(4);
        x.get(0, 0, 5);
        x.finish();
        x.checkpoint(2);
        for (int left = 5; left > 0; left--) {
            x.get(0, 0, 5);
            x.get(15, 3, 6);
            x.step(1, 1);
        }
        x.get(0, 0, 5);
        x.get(15, 3, 6);
    }

    private static void zeroWhenDown() {
        Run x = check.run("get: 0 when the volume is down");
        x.direct(3, 0, 4, true);
        x.checkpointWhole(0);
        x.put(2, 0, 5, true);
        x.crash(0, 4, 0);
        x.get(3, 0, 0);
        x.get(2, 0, 0);
        x.read(3, 0, 4);
        x.recover(0);
        x.get(3, 0, 0);
        x.step(2, 2);
        x.get(3, 0, 0);
        x.step(1, 1);
        x.get(3, 0, 4);
        x.get(2, 0, 0);
    }

    private static void zeroWhenBlockIsNone() {
        Run x = check.run("get: 0 when b is not 0 .. 15");
        x.put(0, 0, 1, true);
        x.put(15, 0, 1, true);
        x.put(0, 3, 1, true);
        x.put(15, 3, 1, true);
        x.commitWhole(4);
        for (int b : Run.NO_BLOCK) {
            x.get(b, 0, 0);
            x.get(b, 3, 0);
        }
        x.get(16, 0, 0);
        x.get(17, 0, 0);
        x.get(0, 0, 1);
        x.get(15, 0, 1);
    }

    private static void zeroWhenWordIsNone() {
        Run x = check.run("get: 0 when w is not 0 .. 3");
        for (int b = 0; b < 8; b++) {
            for (int w = 0; w < 4; w++) {
                x.put(b, w, 1, true);
            }
        }
        for (int w : Run.NO_WORD) {
            x.get(0, w, 0);
            x.get(1, w, 0);
            x.get(7, w, 0);
            x.get(15, w, 0);
        }
        x.get(0, 3, 1);
    }
}
