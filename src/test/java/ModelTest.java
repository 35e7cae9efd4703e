import java.util.Random;

/** Random runs of at most 512 calls on the class and on the model: every answer must be the same. */
public final class ModelTest {
    private static final int RUNS = 20000;
    private static final int CALLS = 512;
    private static final int[] VALUES = {0, 1, 2, 3, 77001, -1, 16, 77000, Integer.MIN_VALUE, 40503};

    private final Check check;
    private final Random random;
    private final int run;
    private final RedoShelf shelf = new RedoShelf();
    private final ShelfModel model = new ShelfModel();
    private int calls = 0;

    private ModelTest(Check check, int run) {
        this.check = check;
        this.run = run;
        this.random = new Random(run);
    }

    public static void main(String[] args) {
        Check check = new Check("ModelTest");
        for (int run = 0; run < RUNS && check.wrong() == 0; run++) {
            new ModelTest(check, run).play();
        }
        check.end();
    }

    private void play() {
        while (calls + 4 <= CALLS && check.wrong() == 0) {
            change();
            look();
            look();
            look();
        }
    }

    private void due(String call, int got, int want) {
        calls++;
        check.due("run " + run + ", call " + calls + ": " + call, got, want);
    }

    private void due(String call, boolean got, boolean want) {
        due(call, got ? 1 : 0, want ? 1 : 0);
    }

    private int pick(int most) {
        return random.nextInt(most);
    }

    private boolean chance(int percent) {
        return pick(100) < percent;
    }

    /** Mostly an index below the bound, at times one of its edges or an int far out. */
    private int index(int bound) {
        if (chance(97)) {
            return pick(bound);
        }
        int[] edges = {-1, bound, bound + 1, Integer.MIN_VALUE, Integer.MAX_VALUE, 1 << 16};
        return edges[pick(edges.length)];
    }

    private int value() {
        return chance(70) ? VALUES[pick(VALUES.length)] : random.nextInt();
    }

    private void change() {
        boolean likely = chance(90);
        int state = model.state();
        if (likely && state >= 2) {
            if (chance(88)) {
                step();
            } else {
                crash();
            }
        } else if (likely && state == 0) {
            recover();
        } else if (likely) {
            changeUp();
        } else {
            changeAny();
        }
    }

    private void changeUp() {
        int kind = pick(100);
        if (kind < 50) {
            put();
        } else if (kind < 58) {
            revoke();
        } else if (kind < 70) {
            direct();
        } else if (kind < 90) {
            commit();
        } else if (kind < 96) {
            checkpoint();
        } else {
            crash();
        }
    }

    private void changeAny() {
        switch (pick(8)) {
            case 0 -> put();
            case 1 -> revoke();
            case 2 -> direct();
            case 3 -> commit();
            case 4 -> checkpoint();
            case 5 -> recover();
            case 6 -> step();
            default -> crash();
        }
    }

    private void put() {
        int b = index(16);
        int w = index(4);
        int v = value();
        due("put(" + b + ", " + w + ", " + v + ")", shelf.put(b, w, v), model.put(b, w, v));
    }

    private void revoke() {
        int b = index(16);
        due("revoke(" + b + ")", shelf.revoke(b), model.revoke(b));
    }

    private void direct() {
        int b = index(16);
        int w = index(4);
        int v = value();
        due("direct(" + b + ", " + w + ", " + v + ")", shelf.direct(b, w, v), model.direct(b, w, v));
    }

    private void commit() {
        due("commit()", shelf.commit(), model.commit());
    }

    private void checkpoint() {
        due("checkpoint()", shelf.checkpoint(), model.checkpoint());
    }

    private void recover() {
        due("recover()", shelf.recover(), model.recover());
    }

    private void step() {
        int n = chance(95) ? 1 + pick(10) : index(11);
        due("step(" + n + ")", shelf.step(n), model.step(n));
    }

    private void crash() {
        int mask = chance(30) ? -1 : random.nextInt();
        int whole = chance(90) ? pick(5) : value();
        due("crash(" + mask + ", " + whole + ")", shelf.crash(mask, whole), model.crash(mask, whole));
    }

    private void look() {
        int s = index(41);
        int b = index(16);
        int w = index(4);
        switch (pick(9)) {
            case 0 -> due("get(" + b + ", " + w + ")", shelf.get(b, w), model.get(b, w));
            case 1 -> due("read(" + s + ", " + w + ")", shelf.read(s, w), model.read(s, w));
            case 2 -> due("stored(" + s + ", " + w + ")", shelf.stored(s, w), model.stored(s, w));
            case 3 -> due("cached()", shelf.cached(), model.cached());
            case 4 -> due("state()", shelf.state(), model.state());
            case 5 -> due("number()", shelf.number(), model.number());
            case 6 -> due("used()", shelf.used(), model.used());
            case 7 -> due("changed(" + b + ")", shelf.changed(b), model.changed(b));
            default -> due("left()", shelf.left(), model.left());
        }
    }
}
