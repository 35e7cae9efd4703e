/** Promise 3, revoke. */
public final class Promise03RevokeTest {
    private static final Check check = new Check("Promise 3");

    public static void main(String[] args) {
        blockIsRevoked();
        revokedTwice();
        everyBlockIsRevoked();
        imageIsDropped();
        pendingImageStays();
        falseWhenClosed();
        falseWhenBlockIsNone();
        check.end();
    }

    private static void blockIsRevoked() {
        Run x = check.run("Block b is revoked in the running transaction");
        x.revoke(0, true);
        x.revoke(15, true);
        x.changed(0, 2);
        x.changed(15, 2);
        x.changed(1, 0);
        x.changed(14, 0);
        x.cached(0);
        x.commitWhole(2);
        x.stores(Run.log(0), Run.MARK, 2, 1, 0x8001);
    }

    private static void revokedTwice() {
        Run x = check.run("Block b is revoked: one that is revoked stays so");
        x.revoke(5, true);
        x.revoke(5, true);
        x.changed(5, 2);
        x.commitWhole(2);
        x.stores(Run.log(0), Run.MARK, 2, 1, 1 << 5);
    }

    private static void everyBlockIsRevoked() {
        Run x = check.run("Block b is revoked: all sixteen at once");
        x.revokeAll(0, 16);
        for (int b = 0; b < 16; b++) {
            x.changed(b, 2);
        }
        x.commit(2);
    }

    private static void imageIsDropped() {
        Run x = check.run("its image there, if it has one, is dropped");
        x.direct(1, 0, 4, true);
        x.put(1, 0, 5, true);
        x.revoke(1, true);
        x.changed(1, 2);
        x.get(1, 0, 4);
        x.commitWhole(2);
        x.changed(1, 0);
        x.get(1, 0, 4);
    }

    private static void pendingImageStays() {
        Run x = check.run("its image there is dropped: one that is pending stays until the commit");
        x.put(1, 0, 5, true);
        x.commitWhole(3);
        x.put(1, 0, 6, true);
        x.revoke(1, true);
        x.changed(1, 6);
        x.get(1, 0, 5);
    }

    private static void falseWhenClosed() {
        for (Closed closed : Closed.values()) {
            for (int actions = 0; actions <= Closed.MOST_ACTIONS; actions++) {
                Run x = check.run("revoke: false when the volume is down, a job runs: " + closed + " " + actions);
                closed.reach(x, actions);
                x.revoke(0, false);
                x.revoke(1, false);
                x.revoke(2, false);
            }
        }
    }

    private static void falseWhenBlockIsNone() {
        Run x = check.run("revoke: false when b is not 0 .. 15");
        for (int b : Run.NO_BLOCK) {
            x.revoke(b, false);
        }
        for (int b = 0; b < 16; b++) {
            x.changed(b, 0);
        }
        x.commit(Run.NONE);
    }
}
