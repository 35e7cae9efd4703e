/** Promise 2, put. */
public final class Promise02PutTest {
    private static final Check check = new Check("Promise 2");

    public static void main(String[] args) {
        wordBecomesValue();
        imageBeginsAsRead();
        imageBeginsAsPending();
        imageThatIsThereStays();
        revocationIsDropped();
        falseWhenClosed();
        falseWhenBlockIsNone();
        falseWhenWordIsNone();
        falseForNinthBlock();
        trueForOneOfEight();
        falseForNinthBlockRevoked();
        trueWhenOneOfEightIsDropped();
        pendingImagesDoNotCount();
        check.end();
    }

    private static void wordBecomesValue() {
        Run x = check.run("Word w of block b becomes v in the running transaction");
        int[] values = {Integer.MIN_VALUE, Integer.MAX_VALUE, Run.MARK, -1};
        for (int b : new int[] {0, 7, 15}) {
            for (int w = 0; w < 4; w++) {
                x.put(b, w, values[w], true);
            }
            x.gets(b, values);
            x.changed(b, 1);
            x.put(b, 2, 0, true);
            x.get(b, 2, 0);
            x.reads(b, 0, 0, 0, 0);
        }
        x.changed(1, 0);
        x.cached(0);
    }

    private static void imageBeginsAsRead() {
        Run x = check.run("its image there, if it has none, begins as get() shows the block's words: as read");
        x.direct(6, 1, 11, true);
        x.checkpointWhole(0);
        x.put(6, 3, 33, true);
        x.gets(6, 0, 11, 0, 33);
        x.direct(5, 0, 1, true);
        x.direct(5, 1, 2, true);
        x.put(5, 2, 3, true);
        x.gets(5, 1, 2, 3, 0);
    }

    private static void imageBeginsAsPending() {
        Run x = check.run("its image there, if it has none, begins as get() shows the block's words: as pending");
        x.put(6, 3, -34, true);
        x.commitWhole(3);
        x.put(6, 0, 5, true);
        x.gets(6, 5, 0, 0, -34);
        x.changed(6, 5);
        x.revoke(6, true);
        x.put(6, 1, 7, true);
        x.gets(6, 0, 7, 0, -34);
        x.commitWhole(3);
        x.gets(6, 0, 7, 0, -34);
    }

    private static void imageThatIsThereStays() {
        Run x = check.run("its image there, if it has none, begins: one that is there goes on");
        x.put(4, 0, 1, true);
        x.put(4, 1, 2, true);
        x.put(4, 0, 3, true);
        x.gets(4, 3, 2, 0, 0);
    }

    private static void revocationIsDropped() {
        Run x = check.run("a revocation of it there is dropped");
        x.revoke(9, true);
        x.revoke(10, true);
        x.put(9, 0, 1, true);
        x.changed(9, 1);
        x.changed(10, 2);
        x.commitWhole(4);
        x.stored(Run.log(2), 3, 1 << 10);
        x.changed(9, 4);
    }

    private static void falseWhenClosed() {
        for (Closed closed : Closed.values()) {
            for (int actions = 0; actions <= Closed.MOST_ACTIONS; actions++) {
                Run x = check.run("put: false when the volume is down, a job runs: " + closed + " " + actions);
                closed.reach(x, actions);
                x.put(0, 0, 1, false);
                x.put(2, 0, 1, false);
                x.put(3, 3, 1, false);
            }
        }
    }

    private static void falseWhenBlockIsNone() {
        Run x = check.run("put: false when b is not 0 .. 15");
        for (int b : Run.NO_BLOCK) {
            x.put(b, 0, 1, false);
        }
        x.commit(Run.NONE);
        x.put(0, 0, 1, true);
        x.put(15, 0, 1, true);
    }

    private static void falseWhenWordIsNone() {
        Run x = check.run("put: false when w is not 0 .. 3");
        for (int w : Run.NO_WORD) {
            x.put(0, w, 1, false);
            x.put(15, w, 1, false);
        }
        x.changed(0, 0);
        x.changed(15, 0);
        x.changed(1, 0);
        x.put(0, 0, 1, true);
        x.put(0, 3, 1, true);
    }

    private static void falseForNinthBlock() {
        Run x = check.run("put: false when b has no image there and 8 blocks have one");
        x.putAll(4, 7, 0, 1);
        x.put(15, 0, 1, true);
        x.put(0, 0, 1, false);
        x.put(14, 3, 1, false);
        x.changed(0, 0);
        x.get(0, 0, 0);
        x.commit(11);
    }

    private static void trueForOneOfEight() {
        Run x = check.run("8 blocks have an image, and b has one");
        x.putAll(0, 8, 0, 1);
        x.putAll(0, 8, 1, 2);
        x.gets(0, 1, 2, 0, 0);
        x.gets(7, 1, 2, 0, 0);
    }

    private static void falseForNinthBlockRevoked() {
        Run x = check.run("8 blocks have an image, and b is revoked: no image either");
        x.putAll(0, 8, 0, 1);
        x.revoke(8, true);
        x.put(8, 0, 1, false);
        x.changed(8, 2);
        x.commit(12);
    }

    private static void trueWhenOneOfEightIsDropped() {
        Run x = check.run("8 blocks have an image, until one is revoked");
        x.putAll(0, 8, 0, 1);
        x.revoke(3, true);
        x.put(8, 0, 1, true);
        x.changed(3, 2);
        x.put(3, 0, 1, false);
        x.put(9, 0, 1, false);
        x.changed(3, 2);
    }

    private static void pendingImagesDoNotCount() {
        Run x = check.run("8 blocks have an image there: in the running transaction alone");
        x.putAll(0, 8, 0, 1);
        x.commitWhole(11);
        x.putAll(8, 8, 0, 1);
        x.put(0, 0, 1, false);
        x.changed(0, 4);
    }
}
