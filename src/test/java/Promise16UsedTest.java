/** Promise 16, used. */
public final class Promise16UsedTest {
    private static final Check check = new Check("Promise 16");

    public static void main(String[] args) {
        goesOnByTheLength();
        zeroBehindACheckpoint();
        zeroBehindARecovery();
        noneWhenDown();
        check.end();
    }

    private static void goesOnByTheLength() {
        Run x = check.run("How many log sectors are used: up to 23");
        x.used(0);
        x.put(0, 0, 1, true);
        x.commit(3);
        x.stepUntil(1);
        x.used(0);
        x.finish();
        x.used(3);
        for (int used = 5; used <= 23; used += 2) {
            x.commitRevocation();
            x.used(used);
        }
        x.revoke(0, true);
        x.commit(Run.FULL);
        x.used(23);
    }

    private static void zeroBehindACheckpoint() {
        Run x = check.run("(checkpoint:) USED is 0");
        x.commitRevocation();
        x.checkpoint(0);
        x.used(2);
        x.stepUntil(1);
        x.used(2);
        x.finish();
        x.used(0);
        x.commitRevocation();
        x.used(2);
    }

    private static void zeroBehindARecovery() {
        Run x = check.run("(recovery:) USED 0");
        x.commitRevocation();
        x.crash(0, 4, 0);
        x.recoverWhole(0);
        x.used(0);
    }

    private static void noneWhenDown() {
        for (Closed closed : Closed.values()) {
            for (int actions = 0; actions <= Closed.MOST_ACTIONS; actions++) {
                Run x = check.run("used: NONE when the volume is down: " + closed + " " + actions);
                closed.reach(x, actions);
                x.used(closed.isDown() ? Run.NONE : 3);
            }
        }
    }
}
