/** Each promise of the document by its number: ordinary calls, the edges it names, and wrong inputs. */
public final class PromisesTest {
    private static final int NONE = RedoShelf.NONE;
    private static final int FULL = RedoShelf.FULL;
    private static final int MARK = 77001;
    private static final int[] NO_BLOCK = {-1, 16, 40, Integer.MIN_VALUE, Integer.MAX_VALUE};
    private static final int[] NO_WORD = {-1, 4, 5, Integer.MIN_VALUE, Integer.MAX_VALUE};
    private static final int[] NO_SECTOR = {-1, 41, 64, Integer.MIN_VALUE, Integer.MAX_VALUE};

    private static final Check check = new Check("PromisesTest");

    public static void main(String[] args) {
        promise1NewObject();
        promise2Put();
        promise2PutRefused();
        promise2PutMostImages();
        promise3Revoke();
        promise4Direct();
        promise4DirectRefused();
        promise5CommitRow();
        promise5CommitActions();
        promise5CommitGroups();
        promise5CommitPending();
        promise5CommitRefused();
        promise5CommitFull();
        promise5CommitWraps();
        promise6Checkpoint();
        promise6CheckpointKeepsRunning();
        promise6CheckpointMostWrites();
        promise7Recover();
        promise7RecoverRevocations();
        promise7RecoverCrashes();
        promise7RecoverInvalid();
        promise7RecoverWraps();
        promise7RecoverTornHead();
        promise8Step();
        promise9Crash();
        promise9CrashTears();
        promise10Get();
        promise11And12ReadAndStored();
        promise13Cached();
        promise14To18WhileDown();
        promise14To18DuringJobs();
        check.end();
    }

    private static void finish(RedoShelf x) {
        for (int i = 0; i < 4 && x.left() > 0; i++) {
            x.step(10);
        }
    }

    private static void commitAll(RedoShelf x, int length) {
        check.due("commit()", x.commit(), length);
        finish(x);
    }

    private static void recoverAll(RedoShelf x, int images) {
        check.due("recover()", x.recover(), images);
        finish(x);
    }

    private static void putMany(RedoShelf x, int from, int count, int v) {
        for (int b = from; b < from + count; b++) {
            check.due("put(" + b + ", 0, " + v + ")", x.put(b, 0, v), true);
        }
    }

    /** The sum of a row, over the words of its sectors as they stand on the device. */
    private static int rowSum(RedoShelf x, int q, int fromSector, int sectors) {
        int sum = q;
        for (int i = 0; i < sectors; i++) {
            for (int w = 0; w < 4; w++) {
                int mixed = (sum ^ x.stored(fromSector + i, w)) * 40503 + 7;
                sum = mixed ^ (mixed >>> 15);
            }
        }
        return sum;
    }

    private static void promise1NewObject() {
        RedoShelf x = new RedoShelf();
        check.due("new state()", x.state(), 1);
        check.due("new number()", x.number(), 1);
        check.due("new used()", x.used(), 0);
        check.due("new cached()", x.cached(), 0);
        check.due("new left()", x.left(), 0);
        for (int s = 0; s < 41; s++) {
            boolean head = s == 16;
            check.dueStored("new", x, s, head ? MARK : 0, head ? 1 : 0, 0, 0);
        }
        for (int b = 0; b < 16; b++) {
            check.due("new changed(" + b + ")", x.changed(b), 0);
        }
        RedoShelf y = new RedoShelf();
        y.put(1, 1, 1);
        check.due("another object", new RedoShelf().get(1, 1), 0);
    }

    private static void promise2Put() {
        RedoShelf x = new RedoShelf();
        check.due("direct", x.direct(6, 1, 11), true);
        check.due("put", x.put(6, 3, 33), true);
        check.due("image begins as read", x.get(6, 1), 11);
        check.due("put word", x.get(6, 3), 33);
        check.due("put is not written", x.read(6, 3), 0);
        check.due("changed", x.changed(6), 1);
        check.due("put again", x.put(6, 3, -34), true);
        check.due("put word again", x.get(6, 3), -34);
        check.due("other block", x.changed(7), 0);
        commitAll(x, 3);
        check.due("put on pending", x.put(6, 0, 5), true);
        check.due("image begins as pending", x.get(6, 3), -34);
        check.due("changed both", x.changed(6), 5);
        x.revoke(6);
        check.due("revoked", x.changed(6), 6);
        check.due("put drops the revocation", x.put(6, 2, 1), true);
        check.due("changed", x.changed(6), 5);
        check.due("dropped image is not kept", x.get(6, 0), 0);
        commitAll(x, 3);
        check.due("pending behind a dropped revocation", x.changed(6), 4);
        for (int w = 0; w < 4; w++) {
            check.due("put(15, " + w + ")", x.put(15, w, w + 1), true);
            check.due("put(0, " + w + ")", x.put(0, w, -w), true);
        }
        for (int w = 0; w < 4; w++) {
            check.due("get(15, " + w + ")", x.get(15, w), w + 1);
            check.due("get(0, " + w + ")", x.get(0, w), -w);
        }
    }

    private static void promise2PutRefused() {
        RedoShelf x = new RedoShelf();
        for (int b : NO_BLOCK) {
            check.due("put(" + b + ", 0, 1)", x.put(b, 0, 1), false);
        }
        for (int w : NO_WORD) {
            check.due("put(0, " + w + ", 1)", x.put(0, w, 1), false);
        }
        check.due("refused put makes no image", x.changed(0), 0);
        check.due("nothing to commit", x.commit(), NONE);
        x.checkpoint();
        check.due("put during a job", x.put(0, 0, 1), false);
        finish(x);
        check.due("put after it", x.put(0, 0, 1), true);
        x.crash(0, 4);
        check.due("put while down", x.put(0, 0, 1), false);
        x.recover();
        check.due("put during recovery", x.put(0, 0, 1), false);
        finish(x);
        check.due("the running transaction is empty", x.changed(0), 0);
    }

    private static void promise2PutMostImages() {
        RedoShelf x = new RedoShelf();
        putMany(x, 4, 8, 1);
        check.due("ninth block", x.put(0, 0, 1), false);
        check.due("ninth block has no image", x.changed(0), 0);
        check.due("one of the eight", x.put(11, 1, 2), true);
        x.revoke(0);
        check.due("ninth block, revoked", x.put(0, 0, 1), false);
        check.due("its revocation stays", x.changed(0), 2);
        x.revoke(4);
        check.due("after one is dropped", x.put(0, 0, 1), true);
        check.due("its revocation is dropped", x.changed(0), 1);
        check.due("ninth again", x.put(4, 0, 1), false);
        commitAll(x, 12);
        check.due("pending images do not count", x.put(4, 0, 1), true);
    }

    private static void promise3Revoke() {
        RedoShelf x = new RedoShelf();
        check.due("revoke", x.revoke(0), true);
        check.due("revoke again", x.revoke(0), true);
        check.due("revoke 15", x.revoke(15), true);
        check.due("changed(0)", x.changed(0), 2);
        check.due("changed(15)", x.changed(15), 2);
        check.due("changed(1)", x.changed(1), 0);
        x.put(1, 0, 5);
        check.due("revoke an image", x.revoke(1), true);
        check.due("its image is dropped", x.get(1, 0), 0);
        check.due("changed(1)", x.changed(1), 2);
        for (int b : NO_BLOCK) {
            check.due("revoke(" + b + ")", x.revoke(b), false);
        }
        commitAll(x, 2);
        check.dueStored("revocations", x, 17, MARK, 2, 1, 0x8003);
        x.checkpoint();
        check.due("revoke during a job", x.revoke(2), false);
        finish(x);
        check.due("refused revoke", x.changed(2), 0);
        x.revoke(3);
        x.crash(0, 4);
        check.due("revoke while down", x.revoke(2), false);
        recoverAll(x, 0);
        check.due("no revocation is running", x.changed(3), 0);
        check.due("nothing to commit", x.commit(), NONE);
    }

    private static void promise4Direct() {
        RedoShelf x = new RedoShelf();
        check.due("direct", x.direct(2, 1, 7), true);
        check.due("cached", x.cached(), 1);
        check.dueRead("direct", x, 2, 0, 7, 0, 0);
        check.dueStored("direct", x, 2, 0, 0, 0, 0);
        check.due("direct again", x.direct(2, 3, 9), true);
        check.due("cached", x.cached(), 2);
        check.dueRead("direct again", x, 2, 0, 7, 0, 9);
        check.due("get", x.get(2, 3), 9);
        check.due("changed", x.changed(2), 0);
        x.revoke(2);
        check.due("direct of a block revoked", x.direct(2, 0, 3), true);
        check.due("its revocation stays", x.changed(2), 2);
        check.due("used", x.used(), 0);
    }

    private static void promise4DirectRefused() {
        RedoShelf x = new RedoShelf();
        for (int b : NO_BLOCK) {
            check.due("direct(" + b + ", 0, 1)", x.direct(b, 0, 1), false);
        }
        for (int w : NO_WORD) {
            check.due("direct(0, " + w + ", 1)", x.direct(0, w, 1), false);
        }
        x.put(1, 0, 1);
        check.due("direct of a running image", x.direct(1, 0, 2), false);
        commitAll(x, 3);
        check.due("direct of a pending image", x.direct(1, 0, 2), false);
        check.due("nothing was written", x.cached(), 0);
        x.checkpoint();
        check.due("direct during a job", x.direct(0, 0, 2), false);
        finish(x);
        check.due("direct after the checkpoint", x.direct(1, 0, 2), true);
        for (int i = 1; i < 12; i++) {
            check.due("direct " + i, x.direct(i, 0, i), true);
        }
        check.due("cached", x.cached(), 12);
        check.due("direct of a thirteenth entry", x.direct(15, 0, 1), false);
        check.due("cached", x.cached(), 12);
        x.crash(0, 4);
        check.due("direct while down", x.direct(0, 0, 1), false);
    }

    private static void promise5CommitRow() {
        RedoShelf x = new RedoShelf();
        x.put(3, 0, 9);
        x.put(3, 1, MARK);
        x.put(15, 0, MARK);
        x.put(15, 3, 4);
        x.put(0, 2, 6);
        x.revoke(1);
        x.revoke(14);
        commitAll(x, 6);
        int info = 3 + (0 << 3) + (3 << 8) + ((15 + 16) << 13);
        check.dueStored("group", x, 17, MARK, 1, 1, info);
        check.dueStored("image of 0", x, 18, 0, 0, 6, 0);
        check.dueStored("image of 3", x, 19, 9, MARK, 0, 0);
        check.dueStored("image of 15", x, 20, 0, 0, 0, 4);
        check.dueStored("revocations", x, 21, MARK, 2, 1, 1 << 1 | 1 << 14);
        check.dueStored("ending", x, 22, MARK, 3, 1, rowSum(x, 1, 17, 5));
        check.dueStored("behind it", x, 23, 0, 0, 0, 0);
        x.revoke(0);
        commitAll(x, 2);
        check.dueStored("second revocations", x, 23, MARK, 2, 2, 1);
        // The sum was worked out outside of Java, with integers that do not wrap and a mask.
        check.dueStored("second ending", x, 24, MARK, 3, 2, 1344291241);
    }

    private static void promise5CommitActions() {
        RedoShelf x = new RedoShelf();
        x.put(3, 0, 9);
        x.direct(4, 0, 1);
        check.due("commit()", x.commit(), 3);
        check.due("state", x.state(), 2);
        check.due("left", x.left(), 5);
        check.due("cached", x.cached(), 1);
        x.step(1);
        check.dueRead("written", x, 17, MARK, 1, 1, 1 + (3 << 3));
        check.dueRead("not yet", x, 18, 0, 0, 0, 0);
        x.step(1);
        check.dueRead("written", x, 18, 9, 0, 0, 0);
        check.due("cached", x.cached(), 3);
        check.dueStored("not flushed", x, 17, 0, 0, 0, 0);
        x.step(1);
        check.due("flushed", x.cached(), 0);
        check.dueStored("flushed", x, 18, 9, 0, 0, 0);
        check.dueStored("the direct write too", x, 4, 1, 0, 0, 0);
        check.dueRead("ending not yet", x, 19, 0, 0, 0, 0);
        x.step(1);
        check.due("ending written", x.read(19, 1), 3);
        check.due("ending not flushed", x.stored(19, 1), 0);
        check.due("number before the last action", x.number(), 1);
        check.due("used before the last action", x.used(), 0);
        check.due("changed before the last action", x.changed(3), 1);
        x.step(1);
        check.due("ending flushed", x.stored(19, 1), 3);
        check.due("number", x.number(), 2);
        check.due("used", x.used(), 3);
        check.due("changed", x.changed(3), 4);
        check.due("state", x.state(), 1);
    }

    private static void promise5CommitGroups() {
        int[] lengths = {0, 3, 4, 5, 6, 8, 9, 10, 11};
        for (int images = 1; images <= 8; images++) {
            RedoShelf x = new RedoShelf();
            putMany(x, 16 - images, images, 2);
            commitAll(x, lengths[images]);
            int first = Math.min(images, 4);
            check.due("first group of " + images, x.stored(17, 3) & 7, first);
            if (images > 4) {
                int info = images - 4;
                for (int j = 0; j < images - 4; j++) {
                    info += (20 - images + j) << (3 + 5 * j);
                }
                check.dueStored("second group of " + images, x, 22, MARK, 1, 1, info);
            }
            RedoShelf y = new RedoShelf();
            putMany(y, 0, images, 2);
            y.revoke(15);
            commitAll(y, lengths[images] + 1);
            y.crash(0, 4);
            recoverAll(y, images);
        }
    }

    private static void promise5CommitPending() {
        RedoShelf x = new RedoShelf();
        x.put(1, 0, 1);
        x.put(2, 0, 2);
        x.put(3, 0, 3);
        commitAll(x, 5);
        x.put(1, 1, 11);
        x.revoke(2);
        commitAll(x, 4);
        check.due("changed(1)", x.changed(1), 4);
        check.due("changed(2)", x.changed(2), 0);
        check.due("changed(3)", x.changed(3), 4);
        check.due("the newer image", x.get(1, 1), 11);
        check.due("begun from the older", x.get(1, 0), 1);
        check.due("dropped", x.get(2, 0), 0);
        check.due("kept", x.get(3, 0), 3);
        check.due("number", x.number(), 3);
        check.due("used", x.used(), 9);
        check.due("checkpoint", x.checkpoint(), 2);
    }

    private static void promise5CommitRefused() {
        RedoShelf x = new RedoShelf();
        check.due("empty commit", x.commit(), NONE);
        check.due("state", x.state(), 1);
        x.put(0, 0, 1);
        x.checkpoint();
        check.due("commit during a job", x.commit(), NONE);
        check.due("the job goes on", x.state(), 3);
        finish(x);
        check.due("commit", x.commit(), 3);
        check.due("commit during a commit", x.commit(), NONE);
        check.due("left", x.left(), 5);
        finish(x);
        check.due("empty again", x.commit(), NONE);
        x.put(0, 0, 1);
        x.crash(0, 4);
        check.due("commit while down", x.commit(), NONE);
    }

    private static void promise5CommitFull() {
        RedoShelf x = new RedoShelf();
        putMany(x, 0, 8, 1);
        x.revoke(8);
        commitAll(x, 12);
        putMany(x, 0, 8, 2);
        check.due("12 + 11 = 23 fit", x.commit(), 11);
        finish(x);
        check.due("used", x.used(), 23);
        x.revoke(0);
        check.due("23 + 2", x.commit(), FULL);
        check.due("state", x.state(), 1);
        check.due("left", x.left(), 0);
        check.due("still running", x.changed(0), 6);
        check.due("number", x.number(), 3);
        check.due("used", x.used(), 23);
        RedoShelf y = new RedoShelf();
        putMany(y, 0, 8, 1);
        y.revoke(8);
        commitAll(y, 12);
        putMany(y, 0, 8, 2);
        y.revoke(8);
        check.due("12 + 12 = 24 do not fit", y.commit(), FULL);
        y.checkpoint();
        finish(y);
        check.due("after a checkpoint", y.commit(), 12);
    }

    private static void promise5CommitWraps() {
        RedoShelf x = new RedoShelf();
        putMany(x, 0, 8, 1);
        commitAll(x, 11);
        putMany(x, 0, 8, 2);
        commitAll(x, 11);
        x.checkpoint();
        finish(x);
        check.dueStored("head", x, 16, MARK, 3, 22, 0);
        x.put(5, 3, 50);
        x.revoke(6);
        commitAll(x, 4);
        check.dueStored("place 22", x, 39, MARK, 1, 3, 1 + (5 << 3));
        check.dueStored("place 23", x, 40, 2, 0, 0, 50);
        check.dueStored("place 0", x, 17, MARK, 2, 3, 1 << 6);
        check.due("place 1", x.stored(18, 1), 3);
        check.dueStored("place 2 is old", x, 19, 1, 0, 0, 0);
        x.checkpoint();
        finish(x);
        check.dueStored("head", x, 16, MARK, 4, 2, 0);
    }

    private static void promise6Checkpoint() {
        RedoShelf x = new RedoShelf();
        x.put(9, 0, 90);
        x.put(2, 0, 20);
        commitAll(x, 4);
        check.due("checkpoint", x.checkpoint(), 2);
        check.due("checkpoint during a job", x.checkpoint(), NONE);
        check.due("state", x.state(), 3);
        check.due("left", x.left(), 5);
        x.step(1);
        check.dueRead("lowest first", x, 2, 20, 0, 0, 0);
        check.dueRead("not yet", x, 9, 0, 0, 0, 0);
        x.step(1);
        check.dueRead("then the next", x, 9, 90, 0, 0, 0);
        check.dueStored("not flushed", x, 2, 0, 0, 0, 0);
        x.step(1);
        check.dueStored("flushed", x, 9, 90, 0, 0, 0);
        check.dueRead("head not yet", x, 16, MARK, 1, 0, 0);
        x.step(1);
        check.dueRead("head", x, 16, MARK, 2, 4, 0);
        check.dueStored("head not flushed", x, 16, MARK, 1, 0, 0);
        check.due("used before the last action", x.used(), 4);
        check.due("changed before the last action", x.changed(2), 4);
        x.step(1);
        check.dueStored("head flushed", x, 16, MARK, 2, 4, 0);
        check.due("used", x.used(), 0);
        check.due("changed", x.changed(2), 0);
        check.due("number", x.number(), 2);
        check.due("get", x.get(9, 0), 90);
        check.due("nothing pending", x.checkpoint(), 0);
        check.due("left", x.left(), 3);
        x.crash(0, 4);
        check.due("checkpoint while down", x.checkpoint(), NONE);
        x.recover();
        check.due("checkpoint during recovery", x.checkpoint(), NONE);
    }

    private static void promise6CheckpointKeepsRunning() {
        RedoShelf x = new RedoShelf();
        x.put(1, 0, 1);
        commitAll(x, 3);
        x.put(1, 0, 2);
        x.revoke(2);
        check.due("checkpoint", x.checkpoint(), 1);
        finish(x);
        check.due("the image is running still", x.changed(1), 1);
        check.due("the revocation too", x.changed(2), 2);
        check.due("the pending words went out", x.stored(1, 0), 1);
        check.due("the running words did not", x.get(1, 0), 2);
        commitAll(x, 4);
        check.due("behind the first row", x.stored(20, 2), 2);
    }

    private static void promise6CheckpointMostWrites() {
        RedoShelf x = new RedoShelf();
        putMany(x, 0, 8, 1);
        commitAll(x, 11);
        putMany(x, 8, 8, 2);
        commitAll(x, 11);
        check.due("checkpoint of all blocks", x.checkpoint(), 16);
        check.due("left", x.left(), 19);
        x.step(10);
        x.step(6);
        check.due("cached", x.cached(), 16);
        check.due("crash", x.crash(0x7fff, 4), 1);
        check.due("block 14 is written", x.stored(14, 0), 2);
        check.due("block 15 is not", x.stored(15, 0), 0);
        recoverAll(x, 16);
        check.due("replayed", x.get(15, 0), 2);
    }

    private static void promise7Recover() {
        RedoShelf x = new RedoShelf();
        check.due("recover while up", x.recover(), NONE);
        x.put(4, 0, MARK);
        x.put(4, 1, 1);
        commitAll(x, 3);
        x.put(4, 1, 2);
        x.put(5, 0, 3);
        commitAll(x, 4);
        x.put(6, 0, 9);
        x.crash(0, 4);
        check.due("recover", x.recover(), 3);
        check.due("recover during a job", x.recover(), NONE);
        check.due("state", x.state(), 4);
        check.due("left", x.left(), 6);
        x.step(1);
        check.dueRead("older first", x, 4, MARK, 1, 0, 0);
        x.step(1);
        check.dueRead("then the newer", x, 4, MARK, 2, 0, 0);
        x.step(1);
        check.dueRead("and the next", x, 5, 3, 0, 0, 0);
        check.due("cached", x.cached(), 3);
        x.step(1);
        check.dueStored("flushed", x, 4, MARK, 2, 0, 0);
        check.dueRead("head not yet", x, 16, MARK, 1, 0, 0);
        x.step(1);
        check.dueRead("head", x, 16, MARK, 3, 7, 0);
        check.dueStored("head not flushed", x, 16, MARK, 1, 0, 0);
        check.due("number while down", x.number(), NONE);
        x.step(1);
        check.dueStored("head flushed", x, 16, MARK, 3, 7, 0);
        check.due("state", x.state(), 1);
        check.due("number", x.number(), 3);
        check.due("used", x.used(), 0);
        check.due("nothing pending", x.changed(4), 0);
        check.due("nothing running", x.changed(6), 0);
        check.due("get", x.get(4, 0), MARK);
        x.revoke(0);
        commitAll(x, 2);
        check.dueStored("behind the last valid one", x, 24, MARK, 2, 3, 1);
    }

    private static void promise7RecoverRevocations() {
        RedoShelf x = new RedoShelf();
        x.put(1, 0, 1);
        x.put(2, 0, 2);
        commitAll(x, 4);
        x.put(1, 0, 11);
        x.put(2, 0, 22);
        commitAll(x, 4);
        x.revoke(1);
        commitAll(x, 2);
        x.put(1, 3, 111);
        x.put(3, 0, 3);
        commitAll(x, 4);
        x.revoke(3);
        commitAll(x, 2);
        x.crash(0, 4);
        check.due("recover", x.recover(), 3);
        x.step(1);
        check.dueRead("first", x, 2, 2, 0, 0, 0);
        x.step(1);
        check.dueRead("second", x, 2, 22, 0, 0, 0);
        x.step(1);
        check.dueRead("third, behind its revocation", x, 1, 0, 0, 0, 111);
        finish(x);
        check.due("revoked", x.get(3, 0), 0);
        check.due("number", x.number(), 6);
        x.put(1, 0, 4);
        x.put(3, 0, 5);
        commitAll(x, 4);
        x.crash(0, 4);
        recoverAll(x, 2);
        check.due("revoked before the head alone", x.get(3, 0), 5);
        RedoShelf y = new RedoShelf();
        putMany(y, 0, 1, 1);
        putMany(y, 7, 1, 1);
        putMany(y, 15, 1, 1);
        commitAll(y, 5);
        y.revoke(0);
        y.revoke(15);
        commitAll(y, 2);
        y.crash(0, 4);
        recoverAll(y, 1);
        check.due("the one not revoked", y.get(7, 0), 1);
    }

    private static void promise7RecoverCrashes() {
        RedoShelf x = new RedoShelf();
        x.put(1, 0, 1);
        x.put(2, 3, 2);
        commitAll(x, 4);
        x.crash(0, 4);
        for (int actions = 1; actions < 5; actions++) {
            check.due("recover before " + actions, x.recover(), 2);
            check.due("step(" + actions + ")", x.step(actions), actions);
            x.crash(actions == 4 ? 0 : -1, 2);
            check.due("state", x.state(), 0);
        }
        recoverAll(x, 2);
        check.due("get", x.get(1, 0), 1);
        check.due("get", x.get(2, 3), 2);
        check.due("number", x.number(), 2);
        x.crash(-1, 0);
        recoverAll(x, 0);
        check.due("number", x.number(), 2);
        check.dueStored("head", x, 16, MARK, 2, 4, 0);
    }

    private static void promise7RecoverInvalid() {
        RedoShelf x = new RedoShelf();
        x.put(1, 3, 1);
        x.commit();
        x.step(4);
        check.due("crash before the ending is flushed", x.crash(0, 4), 1);
        recoverAll(x, 0);
        check.due("number", x.number(), 1);
        check.dueStored("head", x, 16, MARK, 1, 0, 0);
        x.put(1, 3, 1);
        x.commit();
        x.step(4);
        check.due("a torn ending", x.crash(1, 3), 0);
        check.dueStored("torn", x, 19, MARK, 3, 1, 0);
        recoverAll(x, 0);
        check.due("number", x.number(), 1);
        x.put(1, 3, 1);
        x.commit();
        x.step(4);
        x.crash(1, 4);
        recoverAll(x, 1);
        check.due("a whole ending", x.get(1, 3), 1);
        check.due("number", x.number(), 2);
        x.put(1, 3, 2);
        x.commit();
        x.step(2);
        x.crash(-1, 4);
        recoverAll(x, 0);
        check.due("no ending", x.number(), 2);
        check.due("get", x.get(1, 3), 1);
    }

    private static void promise7RecoverWraps() {
        RedoShelf x = new RedoShelf();
        putMany(x, 0, 8, 1);
        commitAll(x, 11);
        putMany(x, 0, 8, 2);
        commitAll(x, 11);
        x.checkpoint();
        finish(x);
        putMany(x, 1, 5, 3);
        commitAll(x, 8);
        x.put(9, 1, 4);
        commitAll(x, 3);
        x.crash(0, 4);
        recoverAll(x, 6);
        check.dueStored("head", x, 16, MARK, 5, 9, 0);
        check.due("get(5, 0)", x.get(5, 0), 3);
        check.due("get(9, 1)", x.get(9, 1), 4);
    }

    private static void promise7RecoverTornHead() {
        RedoShelf x = new RedoShelf();
        x.put(1, 0, 1);
        commitAll(x, 3);
        x.checkpoint();
        x.step(3);
        check.due("crash", x.crash(1, 2), 0);
        check.dueStored("torn head", x, 16, MARK, 2, 0, 0);
        recoverAll(x, 0);
        check.due("the number where the reading began", x.number(), 2);
        x.revoke(3);
        commitAll(x, 2);
        check.dueStored("the place where it began", x, 17, MARK, 2, 2, 8);
    }

    private static void promise8Step() {
        RedoShelf x = new RedoShelf();
        check.due("no job", x.step(1), NONE);
        putMany(x, 0, 8, 1);
        x.commit();
        check.due("left", x.left(), 13);
        for (int n : new int[] {0, -1, 11, Integer.MIN_VALUE, Integer.MAX_VALUE}) {
            check.due("step(" + n + ")", x.step(n), NONE);
        }
        check.due("left", x.left(), 13);
        check.due("step(1)", x.step(1), 1);
        check.due("left", x.left(), 12);
        check.due("step(10)", x.step(10), 10);
        check.due("left", x.left(), 2);
        check.due("state", x.state(), 2);
        check.due("as many as it has", x.step(3), 2);
        check.due("left", x.left(), 0);
        check.due("done", x.step(1), NONE);
        x.checkpoint();
        x.crash(0, 4);
        check.due("a crash ends the job", x.step(1), NONE);
    }

    private static void promise9Crash() {
        RedoShelf x = new RedoShelf();
        check.due("empty cache", x.crash(-1, 4), 0);
        check.due("state", x.state(), 0);
        check.due("crash while down", x.crash(0, 0), 0);
        recoverAll(x, 0);
        for (int b = 0; b < 12; b++) {
            x.direct(b, 0, b + 1);
        }
        check.due("crash", x.crash(0b1000_0000_0101, 4), 9);
        check.due("cached", x.cached(), 0);
        for (int b = 0; b < 12; b++) {
            boolean kept = b == 0 || b == 2 || b == 11;
            check.due("stored(" + b + ", 0)", x.stored(b, 0), kept ? b + 1 : 0);
        }
        recoverAll(x, 0);
        x.direct(15, 0, 1);
        x.direct(15, 1, 2);
        check.due("bits of no entry", x.crash(~3, 0), 2);
        check.dueStored("nothing kept", x, 15, 0, 0, 0, 0);
        recoverAll(x, 0);
        x.direct(15, 0, 1);
        x.direct(15, 0, 2);
        x.direct(15, 1, 3);
        check.due("in their order", x.crash(3, 4), 1);
        check.dueStored("the newer of two", x, 15, 2, 0, 0, 0);
    }

    private static void promise9CrashTears() {
        int[] wholes = {0, 1, 2, 3, 4, -1, Integer.MAX_VALUE, Integer.MIN_VALUE};
        for (int whole : wholes) {
            RedoShelf x = new RedoShelf();
            for (int w = 0; w < 4; w++) {
                x.direct(7, w, 10 + w);
            }
            x.direct(8, 3, 5);
            x.checkpoint();
            x.step(1);
            x.step(10);
            for (int w = 0; w < 4; w++) {
                x.direct(7, w, 20 + w);
            }
            x.direct(8, 3, 6);
            check.due("crash(-1, " + whole + ")", x.crash(0b11000, whole), 3);
            check.dueStored("not the last one", x, 7, 20, 21, 22, 23);
            boolean torn = whole >= 0 && whole < 4;
            check.dueStored("the last one", x, 8, 0, 0, 0, torn ? 5 : 6);
            recoverAll(x, 0);
            for (int w = 0; w < 4; w++) {
                x.direct(7, w, 30 + w);
            }
            x.direct(8, 3, 7);
            check.due("crash(8, " + whole + ")", x.crash(8, whole), 4);
            int kept = torn ? whole : 4;
            check.dueStored("torn at " + whole, x, 7, kept > 0 ? 30 : 20, kept > 1 ? 31 : 21, kept > 2 ? 32 : 22,
                    kept > 3 ? 33 : 23);
        }
    }

    private static void promise10Get() {
        RedoShelf x = new RedoShelf();
        x.direct(3, 0, 1);
        check.due("as read", x.get(3, 0), 1);
        x.put(3, 0, 2);
        check.due("as running", x.get(3, 0), 2);
        x.commit();
        check.due("during a job", x.get(3, 0), 2);
        finish(x);
        check.due("as pending", x.get(3, 0), 2);
        check.due("the device has the old one", x.read(3, 0), 1);
        x.put(3, 0, 3);
        check.due("running before pending", x.get(3, 0), 3);
        x.revoke(3);
        check.due("revoked: as pending still", x.get(3, 0), 2);
        for (int b : NO_BLOCK) {
            check.due("get(" + b + ", 0)", x.get(b, 0), 0);
        }
        check.due("get(16, 0) is not the head", x.get(16, 0), 0);
        x.put(4, 0, 1);
        x.put(3, 3, 1);
        for (int w : NO_WORD) {
            check.due("get(3, " + w + ")", x.get(3, w), 0);
        }
        x.crash(-1, 4);
        check.due("while down", x.get(3, 0), 0);
        check.due("read while down", x.read(3, 0), 1);
        x.recover();
        check.due("during recovery", x.get(3, 0), 0);
        finish(x);
        check.due("after it", x.get(3, 0), 2);
    }

    private static void promise11And12ReadAndStored() {
        RedoShelf x = new RedoShelf();
        x.direct(0, 0, 1);
        x.direct(1, 0, 5);
        x.direct(0, 0, 2);
        check.due("the newest entry", x.read(0, 0), 2);
        check.due("an entry of another", x.read(1, 0), 5);
        check.due("no entry", x.read(16, 0), MARK);
        check.due("the device itself", x.stored(0, 0), 0);
        check.due("the head itself", x.stored(16, 0), MARK);
        x.checkpoint();
        finish(x);
        check.due("read after a flush", x.read(0, 0), 2);
        check.due("stored after a flush", x.stored(0, 0), 2);
        for (int s : NO_SECTOR) {
            check.due("read(" + s + ", 0)", x.read(s, 0), 0);
            check.due("stored(" + s + ", 0)", x.stored(s, 0), 0);
        }
        for (int w : NO_WORD) {
            check.due("read(16, " + w + ")", x.read(16, w), 0);
            check.due("read(15, " + w + ")", x.read(15, w), 0);
            check.due("stored(16, " + w + ")", x.stored(16, w), 0);
            check.due("stored(15, " + w + ")", x.stored(15, w), 0);
        }
        putMany(x, 0, 8, 1);
        commitAll(x, 11);
        putMany(x, 0, 8, 1);
        commitAll(x, 11);
        x.checkpoint();
        finish(x);
        x.put(0, 3, 8);
        x.commit();
        x.step(2);
        check.due("the last sector, read", x.read(40, 3), 8);
        check.due("the last sector, stored", x.stored(40, 3), 0);
        x.crash(-1, 4);
        check.due("stored while down", x.stored(40, 3), 8);
    }

    private static void promise13Cached() {
        RedoShelf x = new RedoShelf();
        for (int i = 1; i <= 12; i++) {
            x.direct(9, 0, i);
            check.due("cached of one sector", x.cached(), i);
        }
        putMany(x, 0, 8, 1);
        x.revoke(8);
        x.commit();
        x.step(10);
        x.step(1);
        check.due("before the flush", x.cached(), 23);
        x.step(1);
        check.due("behind the flush", x.cached(), 0);
        x.step(1);
        check.due("the ending", x.cached(), 1);
        x.crash(0, 4);
        check.due("behind a crash", x.cached(), 0);
    }

    private static void promise14To18WhileDown() {
        RedoShelf x = new RedoShelf();
        x.put(1, 0, 1);
        commitAll(x, 3);
        x.put(2, 0, 1);
        x.crash(0, 4);
        for (int recovering = 0; recovering < 2; recovering++) {
            check.due("state", x.state(), recovering == 0 ? 0 : 4);
            check.due("number", x.number(), NONE);
            check.due("used", x.used(), NONE);
            check.due("changed(1)", x.changed(1), NONE);
            check.due("changed(16)", x.changed(16), NONE);
            check.due("left", x.left(), recovering == 0 ? 0 : 4);
            x.recover();
        }
        finish(x);
        check.due("state", x.state(), 1);
        for (int b : NO_BLOCK) {
            check.due("changed(" + b + ")", x.changed(b), NONE);
        }
    }

    private static void promise14To18DuringJobs() {
        RedoShelf x = new RedoShelf();
        x.put(1, 0, 1);
        x.revoke(2);
        x.commit();
        for (int left = 6; left > 0; left--) {
            check.due("state", x.state(), 2);
            check.due("left", x.left(), left);
            check.due("number", x.number(), 1);
            check.due("used", x.used(), 0);
            check.due("changed(1)", x.changed(1), 1);
            check.due("changed(2)", x.changed(2), 2);
            x.step(1);
        }
        check.due("number", x.number(), 2);
        check.due("used", x.used(), 4);
        x.put(1, 1, 1);
        x.checkpoint();
        for (int left = 4; left > 0; left--) {
            check.due("state", x.state(), 3);
            check.due("left", x.left(), left);
            check.due("number", x.number(), 2);
            check.due("used", x.used(), 4);
            check.due("changed(1)", x.changed(1), 5);
            x.step(1);
        }
        check.due("changed(1)", x.changed(1), 1);
        check.due("used", x.used(), 0);
        x.crash(0, 4);
        x.recover();
        for (int left = 3; left > 0; left--) {
            check.due("state", x.state(), 4);
            check.due("left", x.left(), left);
            x.step(1);
        }
        check.due("state", x.state(), 1);
        check.due("left", x.left(), 0);
    }
}
