/** Promise 4, direct. */
public final class Promise04DirectTest {
    private static final Check check = new Check("Promise 4");

    public static void main(String[] args) {
        writesWhatReadGives();
        writesPastTheLog();
        blockRevoked();
        falseWhenClosed();
        falseWhenBlockIsNone();
        falseWhenWordIsNone();
        falseForRunningImage();
        falseForPendingImage();
        falseForPendingImageRevoked();
        falseWhenCacheHasTwelve();
        twelveOfOneBlock();
        moreThanTwelve();
        check.end();
    }

    private static void writesWhatReadGives() {
        Run x = check.run("Writes to block b: the words that a read gives, with v for word w");
        x.direct(2, 1, 7, true);
        x.reads(2, 0, 7, 0, 0);
        x.checkpointWhole(0);
        x.direct(2, 3, Integer.MIN_VALUE, true);
        x.reads(2, 0, 7, 0, Integer.MIN_VALUE);
        x.direct(2, 0, Run.MARK, true);
        x.reads(2, Run.MARK, 7, 0, Integer.MIN_VALUE);
        x.direct(2, 1, 8, true);
        x.reads(2, Run.MARK, 8, 0, Integer.MIN_VALUE);
        x.stores(2, 0, 7, 0, 0);
        x.cached(3);
        x.direct(0, 2, 1, true);
        x.direct(15, 2, 2, true);
        x.reads(0, 0, 0, 1, 0);
        x.reads(15, 0, 0, 2, 0);
    }

    private static void writesPastTheLog() {
        Run x = check.run("Writes to block b past the log");
        x.direct(2, 1, 7, true);
        x.changed(2, 0);
        x.get(2, 1, 7);
        x.used(0);
        x.number(1);
        x.commit(Run.NONE);
        x.crash(0, 4, 1);
        x.recoverWhole(0);
        x.get(2, 1, 0);
    }

    private static void blockRevoked() {
        Run x = check.run("direct of a block that is revoked and has no image");
        x.revoke(2, true);
        x.direct(2, 0, 3, true);
        x.changed(2, 2);
        x.get(2, 0, 3);
    }

    private static void falseWhenClosed() {
        for (Closed closed : Closed.values()) {
            for (int actions = 0; actions <= Closed.MOST_ACTIONS; actions++) {
                Run x = check.run("direct: false when the volume is down, a job runs: " + closed + " " + actions);
                closed.reach(x, actions);
                x.direct(0, 0, 1, false);
                x.direct(3, 0, 1, false);
            }
        }
    }

    private static void falseWhenBlockIsNone() {
        Run x = check.run("direct: false when b is not 0 .. 15");
        for (int b : Run.NO_BLOCK) {
            x.direct(b, 0, 1, false);
        }
        x.cached(0);
        x.storesHead(1, 0);
    }

    private static void falseWhenWordIsNone() {
        Run x = check.run("direct: false when w is not 0 .. 3");
        for (int w : Run.NO_WORD) {
            x.direct(0, w, 1, false);
            x.direct(15, w, 1, false);
        }
        x.cached(0);
        x.direct(0, 0, 1, true);
        x.direct(0, 3, 1, true);
    }

    private static void falseForRunningImage() {
        Run x = check.run("direct: false when b has an image that is running");
        x.put(1, 0, 1, true);
        x.direct(1, 0, 2, false);
        x.direct(0, 0, 2, true);
        x.direct(2, 0, 2, true);
        x.revoke(1, true);
        x.direct(1, 0, 2, true);
    }

    private static void falseForPendingImage() {
        Run x = check.run("direct: false when b has an image that is pending");
        x.put(1, 0, 1, true);
        x.commitWhole(3);
        x.direct(1, 0, 2, false);
        x.direct(0, 0, 2, true);
        x.checkpointWhole(1);
        x.direct(1, 0, 2, true);
        x.gets(1, 2, 0, 0, 0);
    }

    private static void falseForPendingImageRevoked() {
        Run x = check.run("b has an image that is pending until its revocation is committed");
        x.put(1, 0, 1, true);
        x.commitWhole(3);
        x.revoke(1, true);
        x.direct(1, 0, 2, false);
        x.commitWhole(2);
        x.direct(1, 0, 2, true);
    }

    private static void falseWhenCacheHasTwelve() {
        Run x = check.run("direct: false when the cache has 12 entries");
        for (int b = 0; b < 11; b++) {
            x.direct(b, 0, 1, true);
        }
        x.cached(11);
        x.direct(11, 0, 1, true);
        x.cached(12);
        x.direct(12, 0, 1, false);
        x.direct(11, 0, 2, false);
        x.cached(12);
        x.read(12, 0, 0);
        x.read(11, 0, 1);
        x.checkpointWhole(0);
        x.cached(0);
        x.direct(12, 0, 1, true);
    }

    private static void twelveOfOneBlock() {
        Run x = check.run("the cache has 12 entries: of one block too");
        for (int i = 0; i < 12; i++) {
            x.direct(15, i % 4, i, true);
        }
        x.direct(15, 0, 99, false);
        x.reads(15, 8, 9, 10, 11);
    }

    private static void moreThanTwelve() {
        check.unreachable("the cache has (12 entries) or more", "while the volume is up and no job runs, direct alone"
                + " adds entries, and none to 12; every job ends with a flush, and a crash empties the cache");
    }
}
