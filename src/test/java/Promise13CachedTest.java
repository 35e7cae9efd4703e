/** Promise 13, cached. */
public final class Promise13CachedTest {
    private static final Check check = new Check("Promise 13");

    public static void main(String[] args) {
        emptyAtFirst();
        entriesOfOneSector();
        writesOfJobs();
        emptiedByAFlush();
        emptiedByACrash();
        check.end();
    }

    private static void emptyAtFirst() {
        Run x = check.run("How many entries the cache has: none at first");
        x.cached(0);
        x.put(0, 0, 1, true);
        x.revoke(1, true);
        x.cached(0);
    }

    private static void entriesOfOneSector() {
        Run x = check.run("How many entries the cache has: each write is one, of the same sector too");
        for (int i = 1; i <= 12; i++) {
            x.direct(9, 0, 1, true);
            x.cached(i);
        }
        x.direct(9, 0, 1, false);
        x.cached(12);
    }

    private static void writesOfJobs() {
        Run x = check.run("How many entries the cache has: with those that a job writes");
        for (int i = 0; i < 12; i++) {
            x.direct(9, 0, i, true);
        }
        x.putAll(0, 8, 0, 1);
        x.revoke(8, true);
        x.commit(12);
        for (int i = 1; i <= 11; i++) {
            x.step(1, 1);
            x.cached(12 + i);
        }
        x.step(1, 1);
        x.cached(0);
        x.step(1, 1);
        x.cached(1);
        x.step(1, 1);
        x.cached(0);
        x.checkpoint(8);
        x.step(8, 8);
        x.cached(8);
        x.step(2, 2);
        x.cached(1);
    }

    private static void emptiedByAFlush() {
        Run x = check.run("a FLUSH .. empties it");
        x.direct(0, 0, 1, true);
        x.checkpoint(0);
        x.cached(1);
        x.step(1, 1);
        x.cached(0);
        x.step(1, 1);
        x.cached(1);
        x.step(1, 1);
        x.cached(0);
    }

    private static void emptiedByACrash() {
        for (int mask : new int[] {0, 1, -1}) {
            Run x = check.run("(crash:) The cache is empty.");
            x.direct(0, 0, 1, true);
            x.direct(1, 0, 1, true);
            x.crash(mask, 2, 2 - Integer.bitCount(mask & 3));
            x.cached(0);
            x.recover(0);
            x.cached(0);
        }
    }
}
