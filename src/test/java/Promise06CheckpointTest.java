/** Promise 6, checkpoint, and CHECKPOINT of the terms. */
public final class Promise06CheckpointTest {
    private static final Check check = new Check("Promise 6");

    public static void main(String[] args) {
        actionsOneByOne();
        nothingPending();
        everyBlockPending();
        newestImageAlone();
        headAtEveryPlace();
        runningTransactionStays();
        directWritesAreFlushedToo();
        fullestCache();
        crashBeforeEachAction();
        tornHead();
        noneWhenClosed();
        check.end();
    }

    private static void actionsOneByOne() {
        Run x = check.run("the pending images are written, in the order of their numbers; flush; the head; flush");
        x.put(9, 0, 90, true);
        x.put(2, 0, 20, true);
        x.commitWhole(4);
        x.checkpoint(2);
        x.state(Run.CHECKPOINT);
        x.left(5);
        x.step(1, 1);
        x.reads(2, 20, 0, 0, 0);
        x.reads(9, 0, 0, 0, 0);
        x.step(1, 1);
        x.reads(9, 90, 0, 0, 0);
        x.stores(2, 0, 0, 0, 0);
        x.step(1, 1);
        x.cached(0);
        x.stores(2, 20, 0, 0, 0);
        x.stores(9, 90, 0, 0, 0);
        x.reads(Run.HEAD, Run.MARK, 1, 0, 0);
        x.step(1, 1);
        x.reads(Run.HEAD, Run.MARK, 2, 4, 0);
        x.storesHead(1, 0);
        x.used(4);
        x.changed(2, 4);
        x.changed(9, 4);
        x.step(1, 1);
        x.storesHead(2, 4);
        x.state(Run.UP);
        x.used(0);
        x.changed(2, 0);
        x.changed(9, 0);
        x.number(2);
        x.get(9, 0, 90);
        x.checkpoint(0);
    }

    private static void nothingPending() {
        Run x = check.run("Answers how many images are pending: 0");
        x.checkpoint(0);
        x.left(3);
        x.step(1, 1);
        x.cached(0);
        x.step(1, 1);
        x.cached(1);
        x.step(1, 1);
        x.state(Run.UP);
        x.storesHead(1, 0);
        x.commitRevocation();
        x.checkpointWhole(0);
        x.storesHead(2, 2);
        x.used(0);
        x.checkpointWhole(0);
        x.storesHead(2, 2);
    }

    private static void everyBlockPending() {
        Run x = check.run("Answers how many images are pending: 16");
        x.putAll(0, 8, 0, 1);
        x.commitWhole(11);
        x.putAll(8, 8, 0, 2);
        x.commitWhole(11);
        x.checkpoint(16);
        x.left(19);
        x.step(10, 10);
        x.step(6, 6);
        x.cached(16);
        x.step(10, 3);
        for (int b = 0; b < 16; b++) {
            x.stores(b, b < 8 ? 1 : 2, 0, 0, 0);
            x.changed(b, 0);
        }
        x.storesHead(3, 22);
    }

    private static void newestImageAlone() {
        Run x = check.run("one or none (pending) for each block");
        x.put(5, 0, Run.MARK, true);
        x.commitWhole(3);
        x.put(5, 1, 2, true);
        x.commitWhole(3);
        x.checkpoint(1);
        x.step(1, 1);
        x.reads(5, Run.MARK, 2, 0, 0);
        x.finish();
        x.stores(5, Run.MARK, 2, 0, 0);
    }

    private static void headAtEveryPlace() {
        for (int place = 0; place < 24; place++) {
            Run x = check.run("the head is written: 77001, the number, NEXT, 0: NEXT is " + place);
            x.moveTo(place);
            int number = x.numberNow();
            x.storesHead(number, place);
            x.crash(0, 4, 0);
            x.recoverWhole(0);
            x.storesHead(number, place);
        }
    }

    private static void runningTransactionStays() {
        Run x = check.run("nothing is pending and USED is 0: the running transaction stays");
        x.put(1, 0, 1, true);
        x.commitWhole(3);
        x.put(1, 0, 2, true);
        x.revoke(2, true);
        x.checkpointWhole(1);
        x.changed(1, 1);
        x.changed(2, 2);
        x.stored(1, 0, 1);
        x.get(1, 0, 2);
        x.commitWhole(4);
        x.stores(Run.log(3), Run.MARK, 1, 2, 1 + (1 << 3));
        x.checkpoint(1);
    }

    private static void directWritesAreFlushedToo() {
        Run x = check.run("flush: whatever the cache has, the oldest first");
        x.direct(7, 0, 1, true);
        x.direct(7, 0, 2, true);
        x.checkpoint(0);
        x.stored(7, 0, 0);
        x.step(1, 1);
        x.stored(7, 0, 2);
        x.cached(0);
    }

    private static void fullestCache() {
        Run x = check.run("a checkpoint of 15 images behind 12 direct writes");
        x.putAll(0, 8, 0, 1);
        x.commitWhole(11);
        x.putAll(8, 7, 0, 1);
        x.commitWhole(10);
        for (int i = 1; i <= 12; i++) {
            x.direct(15, 0, i, true);
        }
        x.checkpoint(15);
        x.step(10, 10);
        x.step(5, 5);
        x.cached(27);
        x.read(15, 0, 12);
        x.step(1, 1);
        x.cached(0);
        x.stored(0, 0, 1);
        x.stored(14, 0, 1);
        x.stored(15, 0, 12);
    }

    private static void crashBeforeEachAction() {
        for (int done = 0; done < 5; done++) {
            for (int mask : new int[] {0, 1, 2, -1}) {
                Run x = check.run("a crash behind " + done + " actions of a checkpoint, mask " + mask);
                x.put(4, 0, 40, true);
                x.put(5, 3, 50, true);
                x.commitWhole(4);
                x.checkpoint(2);
                if (done > 0) {
                    x.step(done, done);
                }
                int entries = new int[] {0, 1, 2, 0, 1}[done];
                int kept = Integer.bitCount(mask & ((1 << entries) - 1));
                x.crash(mask, 4, entries - kept);
                boolean headIsNew = done == 4 && kept == 1;
                x.storesHead(headIsNew ? 2 : 1, headIsNew ? 4 : 0);
                x.recoverWhole(headIsNew ? 0 : 2);
                x.get(4, 0, 40);
                x.get(5, 3, 50);
                x.number(2);
                x.storesHead(2, 4);
            }
        }
    }

    private static void tornHead() {
        for (int whole = 0; whole < 4; whole++) {
            Run x = check.run("the head of a checkpoint, torn at " + whole);
            x.put(4, 0, 40, true);
            x.commitWhole(3);
            x.checkpoint(1);
            x.step(3, 3);
            x.crash(1, whole, 0);
            x.storesHead(whole > 1 ? 2 : 1, whole > 2 ? 3 : 0);
            x.recoverWhole(whole > 1 ? 0 : 1);
            x.get(4, 0, 40);
            x.number(2);
            x.storesHead(2, whole == 2 ? 0 : 3);
        }
    }

    private static void noneWhenClosed() {
        for (Closed closed : Closed.values()) {
            for (int actions = 0; actions <= Closed.MOST_ACTIONS; actions++) {
                Run x = check.run("checkpoint: NONE when the volume is down or a job runs: " + closed + " " + actions);
                closed.reach(x, actions);
                x.checkpoint(Run.NONE);
                x.state(closed.state());
            }
        }
    }
}
