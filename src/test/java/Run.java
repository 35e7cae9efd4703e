/**
 * A new object with its calls and the answers that are due. The model answers every call too, so that it is held to
 * the same answers. An object answers for 512 calls; a run that makes more of them has failed.
 */
final class Run {
    static final int NONE = RedoShelf.NONE;
    static final int FULL = RedoShelf.FULL;
    static final int MARK = 77001;
    static final int HEAD = 16;
    static final int LOG = 17;
    static final int LOG_LENGTH = 24;
    static final int DOWN = 0;
    static final int UP = 1;
    static final int COMMIT = 2;
    static final int CHECKPOINT = 3;
    static final int RECOVERY = 4;

    static final int[] NO_BLOCK = {-1, 16, 17, 40, 1 << 16, Integer.MIN_VALUE, Integer.MAX_VALUE};
    static final int[] NO_WORD = {-1, 4, 5, 1 << 16, Integer.MIN_VALUE, Integer.MAX_VALUE};
    static final int[] NO_SECTOR = {-1, 41, 42, 1 << 16, Integer.MIN_VALUE, Integer.MAX_VALUE};

    private static final int MOST_CALLS = 512;

    private final Check check;
    private final String sentence;
    private final RedoShelf shelf = new RedoShelf();
    private final ShelfModel model = new ShelfModel();
    private int calls = 0;

    Run(Check check, String sentence) {
        this.check = check;
        this.sentence = sentence;
    }

    /** The log sector of this place, counted on over the end of the log. */
    static int log(int place) {
        return LOG + place % LOG_LENGTH;
    }

    private void due(String call, int got, int told, int want) {
        calls++;
        String where = "'" + sentence + "', call " + calls + ": " + call;
        check.due(where, got, want);
        check.due(where + " of the model", told, want);
        if (calls > MOST_CALLS) {
            check.due(where + ", calls", calls, MOST_CALLS);
        }
    }

    private void due(String call, boolean got, boolean told, boolean want) {
        due(call, got ? 1 : 0, told ? 1 : 0, want ? 1 : 0);
    }

    private static String call(String name, int... arguments) {
        StringBuilder text = new StringBuilder(name).append('(');
        for (int i = 0; i < arguments.length; i++) {
            text.append(i == 0 ? "" : ", ").append(arguments[i]);
        }
        return text.append(')').toString();
    }

    void put(int b, int w, int v, boolean want) {
        due(call("put", b, w, v), shelf.put(b, w, v), model.put(b, w, v), want);
    }

    void revoke(int b, boolean want) {
        due(call("revoke", b), shelf.revoke(b), model.revoke(b), want);
    }

    void direct(int b, int w, int v, boolean want) {
        due(call("direct", b, w, v), shelf.direct(b, w, v), model.direct(b, w, v), want);
    }

    void commit(int want) {
        due("commit()", shelf.commit(), model.commit(), want);
    }

    void checkpoint(int want) {
        due("checkpoint()", shelf.checkpoint(), model.checkpoint(), want);
    }

    void recover(int want) {
        due("recover()", shelf.recover(), model.recover(), want);
    }

    void step(int n, int want) {
        due(call("step", n), shelf.step(n), model.step(n), want);
    }

    void crash(int mask, int whole, int want) {
        due(call("crash", mask, whole), shelf.crash(mask, whole), model.crash(mask, whole), want);
    }

    void get(int b, int w, int want) {
        due(call("get", b, w), shelf.get(b, w), model.get(b, w), want);
    }

    void read(int s, int w, int want) {
        due(call("read", s, w), shelf.read(s, w), model.read(s, w), want);
    }

    void stored(int s, int w, int want) {
        due(call("stored", s, w), shelf.stored(s, w), model.stored(s, w), want);
    }

    void cached(int want) {
        due("cached()", shelf.cached(), model.cached(), want);
    }

    void state(int want) {
        due("state()", shelf.state(), model.state(), want);
    }

    void number(int want) {
        due("number()", shelf.number(), model.number(), want);
    }

    void used(int want) {
        due("used()", shelf.used(), model.used(), want);
    }

    void changed(int b, int want) {
        due(call("changed", b), shelf.changed(b), model.changed(b), want);
    }

    void left(int want) {
        due("left()", shelf.left(), model.left(), want);
    }

    /** The four words of a sector as a read gives them. */
    void reads(int s, int... want) {
        for (int w = 0; w < 4; w++) {
            read(s, w, want[w]);
        }
    }

    /** The four words of a sector of the device itself. */
    void stores(int s, int... want) {
        for (int w = 0; w < 4; w++) {
            stored(s, w, want[w]);
        }
    }

    /** The four words of a block as the volume has it. */
    void gets(int b, int... want) {
        for (int w = 0; w < 4; w++) {
            get(b, w, want[w]);
        }
    }

    void storesHead(int number, int place) {
        stores(HEAD, MARK, number, place, 0);
    }

    /** What the device itself has, without a due answer: for sums over whole rows. */
    int[] sector(int s) {
        calls += 4;
        return new int[] {shelf.stored(s, 0), shelf.stored(s, 1), shelf.stored(s, 2), shelf.stored(s, 3)};
    }

    void isAtItsLastCall() {
        check.due("'" + sentence + "', calls", calls, MOST_CALLS);
    }

    /** For calls without a due answer, when two runs are compared. */
    RedoShelf shelf() {
        return shelf;
    }

    /** Whatever the model answers is due. */
    int recoverAsTheModel() {
        int want = model.recover();
        calls++;
        check.due("'" + sentence + "', call " + calls + ": recover()", shelf.recover(), want);
        return want;
    }

    void readAsTheModel(int s) {
        for (int w = 0; w < 4; w++) {
            read(s, w, model.read(s, w));
        }
    }

    void putAll(int from, int count, int w, int v) {
        for (int b = from; b < from + count; b++) {
            put(b, w, v, true);
        }
    }

    void revokeAll(int from, int count) {
        for (int b = from; b < from + count; b++) {
            revoke(b, true);
        }
    }

    /** Does all actions of the job but so many. */
    void stepUntil(int left) {
        while (model.left() > left) {
            int n = Math.min(10, model.left() - left);
            step(n, n);
        }
    }

    void finish() {
        stepUntil(0);
    }

    void commitWhole(int length) {
        commit(length);
        finish();
    }

    void checkpointWhole(int images) {
        checkpoint(images);
        finish();
    }

    void recoverWhole(int images) {
        recover(images);
        finish();
    }

    /** The number of the new head gets to the device, its place does not: the old place stays. */
    void recoverTearingHead(int images) {
        recover(images);
        stepUntil(1);
        crash(1, 2, 0);
    }

    /** Uses the smallest row there is: two sectors. */
    void commitRevocation() {
        revoke(15, true);
        commitWhole(2);
    }

    /** From a new object on: the next row will begin at this place, nothing is used, and all blocks hold 0. */
    void moveTo(int place) {
        int distance = place == 1 ? LOG_LENGTH + 1 : place;
        if (distance % 2 == 1) {
            put(0, 0, 0, true);
            commitWhole(3);
            distance -= 3;
        }
        for (int rows = 0; rows < distance / 2; rows++) {
            if (rows == 9) {
                checkpointWhole(model.changed(0) / 4);
            }
            commitRevocation();
        }
        checkpointWhole(model.changed(0) / 4);
        storesHead(model.number(), place);
    }

    /** The number that the model has, for tests that begin behind {@link #moveTo}. */
    int numberNow() {
        return model.number();
    }
}
