/** Promise 18, left. */
public final class Promise18LeftTest {
    private static final Check check = new Check("Promise 18");

    public static void main(String[] args) {
        everyJob();
        fewestAndMost();
        zeroWhenNoneRuns();
        zeroBehindACrash();
        check.end();
    }

    private static void everyJob() {
        Run x = check.run("How many actions the job has left");
        x.put(1, 0, 1, true);
        x.commit(3);
        dueDownTo0(x, 5);
        x.checkpoint(1);
        dueDownTo0(x, 4);
        x.put(1, 0, 1, true);
        x.commitWhole(3);
        x.crash(0, 4, 0);
        x.recover(1);
        dueDownTo0(x, 4);
    }

    private static void dueDownTo0(Run x, int actions) {
        for (int left = actions; left > 0; left--) {
            x.left(left);
            x.step(1, 1);
        }
        x.left(0);
    }

    private static void fewestAndMost() {
        Run x = check.run("How many actions the job has left: the shortest and the longest jobs of commits");
        x.revoke(0, true);
        x.commit(2);
        dueDownTo0(x, 4);
        x.checkpoint(0);
        dueDownTo0(x, 3);
        x.crash(0, 4, 0);
        x.recover(0);
        dueDownTo0(x, 3);
        x.putAll(0, 8, 0, 1);
        x.revoke(8, true);
        x.commit(12);
        dueDownTo0(x, 14);
        x.putAll(8, 8, 0, 1);
        x.commit(11);
        dueDownTo0(x, 13);
        x.checkpoint(16);
        x.left(19);
        x.step(2, 2);
        x.crash(0, 4, 2);
        x.recover(16);
        dueDownTo0(x, 19);
    }

    private static void zeroWhenNoneRuns() {
        Run x = check.run("left: 0 when none runs");
        x.left(0);
        x.put(0, 0, 1, true);
        x.left(0);
        x.direct(1, 0, 1, true);
        x.left(0);
        x.crash(0, 4, 1);
        x.left(0);
        x.commit(Run.NONE);
        x.left(0);
    }

    private static void zeroBehindACrash() {
        for (Closed closed : Closed.values()) {
            Run x = check.run("left: 0 when a crash has ended the job: " + closed);
            closed.reach(x, 1);
            x.left(new int[] {0, 4, 3, 3}[closed.ordinal()]);
            x.crash(-1, 4, 0);
            x.left(0);
        }
    }
}
