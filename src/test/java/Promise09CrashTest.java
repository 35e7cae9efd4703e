/** Promise 9, crash, and the device that loses or tears what it has not flushed. */
public final class Promise09CrashTest {
    private static final Check check = new Check("Promise 9");
    private static final int[] WHOLE_ENTRIES = {4, 5, -1, Integer.MIN_VALUE, Integer.MAX_VALUE};

    public static void main(String[] args) {
        downWithoutJob();
        emptyCache();
        crashWhileDown();
        entriesByTheirBits();
        everyEntryAlone();
        bitsOfNoEntry();
        inTheirOrder();
        lastOneTorn();
        lastOneIsTheLastKept();
        tornEntryIsWholeOtherwise();
        tornOverAnOlderEntry();
        nothingKeptIsNothingTorn();
        fullestCache();
        memoryIsGone();
        check.end();
    }

    private static void downWithoutJob() {
        for (Closed closed : Closed.values()) {
            Run x = check.run("the volume is down, no job runs: " + closed);
            closed.reach(x, 2);
            x.crash(-1, 4, 0);
            x.state(Run.DOWN);
            x.left(0);
            x.cached(0);
            x.recoverWhole(1);
            x.get(1, 0, 10);
        }
        Run x = check.run("the volume is down, no job runs: it was up");
        x.crash(0, 4, 0);
        x.state(Run.DOWN);
    }

    private static void emptyCache() {
        for (int mask : new int[] {0, 1, -1, Integer.MIN_VALUE, Integer.MAX_VALUE}) {
            Run x = check.run("Answers how many entries there were whose bit is 0: none in an empty cache");
            x.crash(mask, 0, 0);
            x.crash(mask, 4, 0);
            x.storesHead(1, 0);
        }
    }

    private static void crashWhileDown() {
        Run x = check.run("A crash while the volume is down");
        x.direct(1, 0, 1, true);
        x.crash(1, 4, 0);
        x.crash(0, 0, 0);
        x.state(Run.DOWN);
        x.stored(1, 0, 1);
        x.recoverWhole(0);
        x.get(1, 0, 1);
    }

    private static void directs(Run x, int count) {
        for (int b = 0; b < count; b++) {
            x.direct(b, 0, b + 1, true);
        }
    }

    private static void entriesByTheirBits() {
        Run x = check.run("those whose bit is 1 in mask are written to their sectors");
        directs(x, 12);
        x.crash(0b1000_0000_0101, 4, 9);
        x.cached(0);
        for (int b = 0; b < 12; b++) {
            boolean kept = b == 0 || b == 2 || b == 11;
            x.stored(b, 0, kept ? b + 1 : 0);
            x.read(b, 0, kept ? b + 1 : 0);
        }
    }

    private static void everyEntryAlone() {
        for (int entry = 0; entry < 12; entry++) {
            Run x = check.run("numbered from 0, the oldest first: " + entry);
            directs(x, 12);
            x.crash(1 << entry, 4, 11);
            Run y = check.run("numbered from 0, the oldest first: all but " + entry);
            directs(y, 12);
            y.crash(~(1 << entry), 4, 1);
            for (int b = 0; b < 12; b++) {
                x.stored(b, 0, b == entry ? b + 1 : 0);
                y.stored(b, 0, b == entry ? 0 : b + 1);
            }
        }
    }

    private static void bitsOfNoEntry() {
        Run x = check.run("bits of the mask that no entry has");
        x.direct(15, 0, 1, true);
        x.direct(14, 1, 2, true);
        x.crash(~3, 0, 2);
        x.stores(15, 0, 0, 0, 0);
        x.stores(14, 0, 0, 0, 0);
        x.recoverWhole(0);
        x.direct(15, 0, 1, true);
        x.direct(14, 1, 2, true);
        x.crash(~2, 4, 1);
        x.stores(15, 1, 0, 0, 0);
        x.stores(14, 0, 0, 0, 0);
    }

    private static void inTheirOrder() {
        Run x = check.run("written to their sectors, in their order");
        x.direct(15, 0, 1, true);
        x.direct(15, 0, 2, true);
        x.direct(15, 1, 3, true);
        x.crash(3, 4, 1);
        x.stores(15, 2, 0, 0, 0);
        x.recoverWhole(0);
        x.direct(15, 0, 5, true);
        x.direct(15, 1, 6, true);
        x.direct(15, 0, 7, true);
        x.crash(5, 4, 1);
        x.stores(15, 7, 6, 0, 0);
    }

    /** Block 7 has 10, 11, 12, 13 on the device. */
    private static void settleBlock7(Run x) {
        for (int w = 0; w < 4; w++) {
            x.direct(7, w, 10 + w, true);
        }
        x.checkpointWhole(0);
    }

    private static void lastOneTorn() {
        for (int whole = 0; whole <= 3; whole++) {
            Run x = check.run("of the last one of these only its first whole words, if whole is 0 .. 3: " + whole);
            settleBlock7(x);
            for (int w = 0; w < 4; w++) {
                x.direct(7, w, 20 + w, true);
            }
            x.crash(8, whole, 3);
            x.stores(7, whole > 0 ? 20 : 10, whole > 1 ? 21 : 11, whole > 2 ? 22 : 12, 13);
        }
    }

    private static void tornEntryIsWholeOtherwise() {
        for (int whole : WHOLE_ENTRIES) {
            Run x = check.run("if whole is 0 .. 3: not " + whole);
            settleBlock7(x);
            for (int w = 0; w < 4; w++) {
                x.direct(7, w, 20 + w, true);
            }
            x.crash(8, whole, 3);
            x.stores(7, 20, 21, 22, 23);
        }
    }

    private static void lastOneIsTheLastKept() {
        for (int whole = 0; whole <= 3; whole++) {
            Run x = check.run("of the last one of these: no other is torn, whole " + whole);
            settleBlock7(x);
            x.direct(7, 3, 23, true);
            x.direct(8, 3, 5, true);
            x.direct(9, 3, 6, true);
            x.crash(0b011, whole, 1);
            x.stores(7, 10, 11, 12, 23);
            x.stores(8, 0, 0, 0, 0);
            x.stores(9, 0, 0, 0, 0);
            x.recoverWhole(0);
            x.direct(7, 3, 33, true);
            x.direct(8, 3, 7, true);
            x.direct(9, 3, 8, true);
            x.crash(0b101, whole, 1);
            x.stores(7, 10, 11, 12, 33);
            x.stores(8, 0, 0, 0, 0);
            x.stores(9, 0, 0, 0, 0);
        }
    }

    private static void tornOverAnOlderEntry() {
        Run x = check.run("the sector's other words stay: those of an older entry that was kept");
        settleBlock7(x);
        x.direct(7, 0, 20, true);
        x.direct(7, 3, 23, true);
        x.direct(7, 0, 30, true);
        x.direct(7, 3, 33, true);
        x.crash(0b1010, 1, 2);
        x.stores(7, 30, 11, 12, 23);
    }

    private static void nothingKeptIsNothingTorn() {
        for (int whole = 0; whole <= 4; whole++) {
            Run x = check.run("of the last one of these: there is none, whole " + whole);
            settleBlock7(x);
            x.direct(7, 0, 20, true);
            x.crash(0, whole, 1);
            x.stores(7, 10, 11, 12, 13);
        }
    }

    private static void fillCache(Run x) {
        x.putAll(0, 8, 0, 1);
        x.commitWhole(11);
        x.putAll(8, 7, 0, 1);
        x.commitWhole(10);
        for (int i = 1; i <= 12; i++) {
            x.direct(15, 0, i, true);
        }
        x.checkpoint(15);
        x.step(10, 10);
        x.step(5, 5);
        x.cached(27);
    }

    private static void fullestCache() {
        Run last = check.run("the cache's entries, numbered from 0: the last of 27");
        fillCache(last);
        last.crash(1 << 26, 4, 26);
        last.stored(14, 0, 1);
        last.stored(13, 0, 0);
        last.stored(15, 0, 0);
        Run none = check.run("the cache's entries, numbered from 0: none of 27");
        fillCache(none);
        none.crash(-1 << 27, 0, 27);
        none.stored(14, 0, 0);
        Run all = check.run("the cache's entries, numbered from 0: all of 27");
        fillCache(all);
        all.crash(-1, 0, 0);
        all.stored(13, 0, 1);
        all.stored(14, 0, 0);
        all.stored(15, 0, 12);
        check.unreachable("an entry that has no bit in mask, the 33rd or a later one",
                "a checkpoint of 15 images behind 12 direct writes makes the fullest cache, of 27 entries: with 16"
                + " images pending no direct write is taken, and commit and recovery begin with at most 12 and none");
    }

    private static void memoryIsGone() {
        Run x = check.run("While it is DOWN there is none of that: number, used, running and pending");
        x.put(1, 0, 1, true);
        x.commitWhole(3);
        x.put(2, 0, 2, true);
        x.revoke(3, true);
        x.crash(0, 4, 0);
        x.number(Run.NONE);
        x.used(Run.NONE);
        for (int b = 0; b < 4; b++) {
            x.changed(b, Run.NONE);
            x.get(b, 0, 0);
        }
        x.recoverWhole(1);
        for (int b = 0; b < 4; b++) {
            x.changed(b, 0);
        }
        x.commit(Run.NONE);
        x.checkpointWhole(0);
    }
}
