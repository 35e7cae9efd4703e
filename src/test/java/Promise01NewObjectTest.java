/** Promise 1, a new object, and what the terms say is there at first. */
public final class Promise01NewObjectTest {
    private static final Check check = new Check("Promise 1");

    public static void main(String[] args) {
        upWithoutJob();
        wordsAtFirst();
        memoryAtFirst();
        emptyAtFirst();
        objectsShareNothing();
        check.end();
    }

    private static void upWithoutJob() {
        Run x = check.run("The volume is up, no job runs.");
        x.state(Run.UP);
        x.left(0);
        x.step(1, Run.NONE);
        x.recover(Run.NONE);
    }

    private static void wordsAtFirst() {
        Run stored = check.run("All words are 0 at first, but for the head: 77001, 1, 0, 0.");
        Run read = check.run("All words are 0 at first, as a read gives them");
        for (int s = 0; s < 41; s++) {
            int[] due = s == Run.HEAD ? new int[] {Run.MARK, 1, 0, 0} : new int[4];
            stored.stores(s, due);
            read.reads(s, due);
        }
        Run got = check.run("All words are 0 at first, as the volume has them");
        for (int b = 0; b < 16; b++) {
            got.gets(b, 0, 0, 0, 0);
        }
    }

    private static void memoryAtFirst() {
        Run x = check.run("the number (1 at first), NEXT (0 at first), USED (0 at first)");
        x.number(1);
        x.used(0);
        x.revoke(0, true);
        x.commitWhole(2);
        x.stores(Run.log(0), Run.MARK, 2, 1, 1);
    }

    private static void emptyAtFirst() {
        Run x = check.run("nothing is cached, running or pending in a new object");
        x.cached(0);
        for (int b = 0; b < 16; b++) {
            x.changed(b, 0);
        }
        x.commit(Run.NONE);
        x.checkpoint(0);
    }

    private static void objectsShareNothing() {
        Run x = check.run("one of two objects");
        Run y = check.run("the other of two objects");
        x.put(1, 1, 1, true);
        x.direct(2, 2, 2, true);
        y.cached(0);
        y.changed(1, 0);
        y.read(2, 2, 0);
        x.commitWhole(3);
        y.number(1);
        y.stores(Run.log(0), 0, 0, 0, 0);
        y.crash(0, 4, 0);
        x.state(Run.UP);
        x.get(1, 1, 1);
    }
}
