/** Promise 8, step. */
public final class Promise08StepTest {
    private static final Check check = new Check("Promise 8");

    public static void main(String[] args) {
        doesTheNextActions();
        asManyAsItHas();
        exactlyAsManyAsItHas();
        everyCount();
        noneWhenNoJobRuns();
        noneWhenTheJobHasEnded();
        noneBehindACrash();
        noneWhenTooFewOrTooMany();
        check.end();
    }

    /** Thirteen actions: ten writes and a flush, a write and a flush. */
    private static void beginCommit(Run x) {
        x.putAll(0, 8, 0, 1);
        x.commit(11);
        x.left(13);
    }

    private static void doesTheNextActions() {
        Run x = check.run("Does the next n actions of the job");
        beginCommit(x);
        x.step(1, 1);
        x.cached(1);
        x.left(12);
        x.step(2, 2);
        x.cached(3);
        x.left(10);
        x.step(7, 7);
        x.cached(10);
        x.left(3);
        x.step(1, 1);
        x.cached(0);
        x.left(2);
        x.state(Run.COMMIT);
    }

    private static void asManyAsItHas() {
        Run x = check.run("or as many as it has. Answers how many");
        beginCommit(x);
        x.step(10, 10);
        x.left(3);
        x.step(10, 3);
        x.left(0);
        x.state(Run.UP);
        x.checkpoint(8);
        x.step(10, 10);
        x.step(2, 1);
        x.state(Run.UP);
        x.crash(0, 4, 0);
        x.recover(0);
        x.step(4, 3);
        x.state(Run.UP);
    }

    private static void exactlyAsManyAsItHas() {
        Run x = check.run("Does the next n actions: the last ones");
        beginCommit(x);
        x.step(10, 10);
        x.step(3, 3);
        x.state(Run.UP);
        x.number(2);
    }

    private static void everyCount() {
        for (int n = 1; n <= 10; n++) {
            Run x = check.run("n is 1 .. 10: " + n);
            beginCommit(x);
            int left = 13;
            while (left > 0) {
                int count = Math.min(n, left);
                x.step(n, count);
                left -= count;
                x.left(left);
                x.state(left > 0 ? Run.COMMIT : Run.UP);
            }
            x.step(n, Run.NONE);
        }
    }

    private static void noneWhenNoJobRuns() {
        Run x = check.run("step: NONE when no job runs");
        x.step(1, Run.NONE);
        x.step(10, Run.NONE);
        x.put(0, 0, 1, true);
        x.step(1, Run.NONE);
        x.crash(0, 4, 0);
        x.step(1, Run.NONE);
        x.step(10, Run.NONE);
        x.state(Run.DOWN);
    }

    private static void noneWhenTheJobHasEnded() {
        Run x = check.run("step: NONE when no job runs any more");
        x.checkpoint(0);
        x.step(3, 3);
        x.step(1, Run.NONE);
        x.revoke(0, true);
        x.commit(2);
        x.step(4, 4);
        x.step(1, Run.NONE);
        x.number(2);
        x.crash(0, 4, 0);
        x.recover(0);
        x.step(3, 3);
        x.step(1, Run.NONE);
    }

    private static void noneBehindACrash() {
        for (Closed closed : Closed.values()) {
            Run x = check.run("step: NONE when a crash has ended the job: " + closed);
            closed.reach(x, 2);
            x.crash(-1, 4, 0);
            x.step(1, Run.NONE);
            x.left(0);
        }
    }

    private static void noneWhenTooFewOrTooMany() {
        Run x = check.run("step: NONE when n is not 1 .. 10");
        beginCommit(x);
        for (int n : new int[] {0, -1, 11, 12, -10, Integer.MIN_VALUE, Integer.MAX_VALUE}) {
            x.step(n, Run.NONE);
            x.left(13);
            x.cached(0);
        }
        x.step(10, 10);
        for (int n : new int[] {0, 11}) {
            x.step(n, Run.NONE);
            x.left(3);
        }
    }
}
