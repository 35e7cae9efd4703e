/** Promise 17, changed. */
public final class Promise17ChangedTest {
    private static final Check check = new Check("Promise 17");

    public static void main(String[] args) {
        everyAnswer();
        directIsNoChange();
        duringJobs();
        noneWhenDown();
        noneWhenBlockIsNone();
        check.end();
    }

    private static void everyAnswer() {
        for (int b : new int[] {0, 8, 15}) {
            Run x = check.run("0 nothing, 1 an image, 2 a revocation, and 4 more when an image is pending: " + b);
            x.changed(b, 0);
            x.put(b, 0, 1, true);
            x.changed(b, 1);
            x.revoke(b, true);
            x.changed(b, 2);
            x.put(b, 0, 1, true);
            x.changed(b, 1);
            x.commitWhole(3);
            x.changed(b, 4);
            x.put(b, 0, 2, true);
            x.changed(b, 5);
            x.revoke(b, true);
            x.changed(b, 6);
            x.commitWhole(2);
            x.changed(b, 0);
            for (int other = 0; other < 16; other++) {
                x.changed(other, 0);
            }
        }
    }

    private static void directIsNoChange() {
        Run x = check.run("0 nothing: a direct write is no part of the running transaction");
        x.direct(4, 0, 1, true);
        x.changed(4, 0);
    }

    private static void duringJobs() {
        Run x = check.run("Of block b: while a job runs, until its last action");
        x.put(1, 0, 1, true);
        x.revoke(2, true);
        x.commit(4);
        for (int i = 0; i < 6; i++) {
            x.changed(1, 1);
            x.changed(2, 2);
            x.step(1, 1);
        }
        x.changed(1, 4);
        x.changed(2, 0);
        x.put(1, 1, 1, true);
        x.checkpoint(1);
        for (int i = 0; i < 4; i++) {
            x.changed(1, 5);
            x.step(1, 1);
        }
        x.changed(1, 1);
    }

    private static void noneWhenDown() {
        for (Closed closed : Closed.values()) {
            for (int actions = 0; actions <= Closed.MOST_ACTIONS; actions++) {
                Run x = check.run("changed: NONE when the volume is down: " + closed + " " + actions);
                closed.reach(x, actions);
                x.changed(0, closed.isDown() ? Run.NONE : 0);
                x.changed(1, closed.isDown() ? Run.NONE : 4);
                x.changed(2, closed.isDown() ? Run.NONE : 1);
            }
        }
    }

    private static void noneWhenBlockIsNone() {
        Run x = check.run("changed: NONE when b is not 0 .. 15");
        for (int b : Run.NO_BLOCK) {
            x.changed(b, Run.NONE);
        }
        x.crash(0, 4, 0);
        for (int b : Run.NO_BLOCK) {
            x.changed(b, Run.NONE);
        }
    }
}
