/** Promise 14, state. */
public final class Promise14StateTest {
    private static final Check check = new Check("Promise 14");

    public static void main(String[] args) {
        upAndDown();
        everyJob();
        refusedCallsBeginNoJob();
        check.end();
    }

    private static void upAndDown() {
        Run x = check.run("0 when the volume is down and no job runs, 1 when it is up and none runs");
        x.state(1);
        x.crash(0, 4, 0);
        x.state(0);
        x.crash(0, 4, 0);
        x.state(0);
        x.recoverWhole(0);
        x.state(1);
    }

    private static void everyJob() {
        Run x = check.run("2 COMMIT, 3 CHECKPOINT, 4 RECOVERY");
        x.put(0, 0, 1, true);
        x.commit(3);
        dueUntilDone(x, 2, 5);
        x.checkpoint(1);
        dueUntilDone(x, 3, 4);
        x.checkpoint(0);
        dueUntilDone(x, 3, 3);
        x.put(0, 0, 1, true);
        x.commitWhole(3);
        x.crash(0, 4, 0);
        x.recover(1);
        dueUntilDone(x, 4, 4);
        for (Closed closed : Closed.values()) {
            Run y = check.run("state behind a crash: " + closed);
            closed.reach(y, 2);
            y.crash(-1, 4, 0);
            y.state(0);
        }
    }

    private static void dueUntilDone(Run x, int state, int actions) {
        for (int i = 0; i < actions; i++) {
            x.state(state);
            x.step(1, 1);
        }
        x.state(1);
    }

    private static void refusedCallsBeginNoJob() {
        Run x = check.run("state behind calls that are refused");
        x.commit(Run.NONE);
        x.state(1);
        x.recover(Run.NONE);
        x.state(1);
        x.crash(0, 4, 0);
        x.commit(Run.NONE);
        x.state(0);
        x.checkpoint(Run.NONE);
        x.state(0);
    }
}
