import java.util.ArrayList;
import java.util.List;

/** Promise 5, commit, and COMMIT of the terms. */
public final class Promise05CommitTest {
    private static final Check check = new Check("Promise 5");
    /** The length of a row of so many images, without revocations. */
    private static final int[] LENGTH = {1, 3, 4, 5, 6, 8, 9, 10, 11};

    public static void main(String[] args) {
        rowOfImagesAndRevocations();
        blocksInTheOrderOfTheirNumbers();
        fourAtATime();
        firstWordThatIsTheMark();
        wordsThatAreNearlyTheMark();
        markInEveryPlaceOfAGroup();
        noRevocations();
        everyBlockRevoked();
        sumsWorkedOutElsewhere();
        actionsOneByOne();
        actionsOfTheSmallestRow();
        placeAfter23Is0();
        rowThatEndsWithPlace23();
        imagesBecomePending();
        pendingImageIsDropped();
        runningTransactionIsEmpty();
        answersTheLength();
        noneWhenClosed();
        noneWhenEmpty();
        noneWhenEmptyAndNoRoom();
        rowThatFits();
        fullByOne();
        fullForTheSmallestRow();
        fullBeginsNothing();
        fullUntilACheckpoint();
        check.end();
    }

    private static void rowOfImagesAndRevocations() {
        Run x = check.run("COMMIT: its row of log sectors");
        x.put(0, 2, 6, true);
        x.put(3, 0, 9, true);
        x.put(15, 3, -4, true);
        x.revoke(1, true);
        x.revoke(14, true);
        x.commitWhole(6);
        x.stores(Run.log(0), Run.MARK, 1, 1, 3 + (0 << 3) + (3 << 8) + (15 << 13));
        x.stores(Run.log(1), 0, 0, 6, 0);
        x.stores(Run.log(2), 9, 0, 0, 0);
        x.stores(Run.log(3), 0, 0, 0, -4);
        x.stores(Run.log(4), Run.MARK, 2, 1, 1 << 1 | 1 << 14);
        x.stores(Run.log(5), Run.MARK, 3, 1, sumOfRow(x, 1, 0, 5));
        x.stores(Run.log(6), 0, 0, 0, 0);
    }

    private static int sumOfRow(Run x, int number, int place, int sectors) {
        List<int[]> row = new ArrayList<>();
        for (int i = 0; i < sectors; i++) {
            row.add(x.sector(Run.log(place + i)));
        }
        return ShelfModel.sum(number, row);
    }

    private static void blocksInTheOrderOfTheirNumbers() {
        Run x = check.run("for the blocks with images, in the order of their numbers");
        for (int b : new int[] {12, 3, 15, 0, 7, 1}) {
            x.put(b, 1, 100 + b, true);
        }
        x.commitWhole(9);
        x.stores(Run.log(0), Run.MARK, 1, 1, 4 + (0 << 3) + (1 << 8) + (3 << 13) + (7 << 18));
        x.stored(Run.log(1), 1, 100);
        x.stored(Run.log(2), 1, 101);
        x.stored(Run.log(3), 1, 103);
        x.stored(Run.log(4), 1, 107);
        x.stores(Run.log(5), Run.MARK, 1, 1, 2 + (12 << 3) + (15 << 8));
        x.stored(Run.log(6), 1, 112);
        x.stored(Run.log(7), 1, 115);
    }

    private static void fourAtATime() {
        for (int images = 1; images <= 8; images++) {
            Run x = check.run("four at a time (the last time perhaps fewer): " + images);
            int from = 16 - images;
            x.putAll(from, images, 2, 5);
            x.commitWhole(LENGTH[images]);
            int place = 0;
            for (int first = from; first < 16; first += 4) {
                int count = Math.min(4, 16 - first);
                int info = count;
                for (int j = 0; j < count; j++) {
                    info += (first + j) << (3 + 5 * j);
                    x.stores(Run.log(place + 1 + j), 0, 0, 5, 0);
                }
                x.stores(Run.log(place), Run.MARK, 1, 1, info);
                place += 1 + count;
            }
            x.stored(Run.log(place), 1, 3);
            x.stored(Run.log(place + 1), 0, 0);
        }
    }

    private static void firstWordThatIsTheMark() {
        Run x = check.run("but with 0 in place of a first word that is 77001");
        x.put(6, 0, Run.MARK, true);
        x.put(6, 1, Run.MARK, true);
        x.put(6, 3, Run.MARK, true);
        x.put(9, 1, Run.MARK, true);
        x.commitWhole(4);
        x.stores(Run.log(0), Run.MARK, 1, 1, 2 + ((6 + 16) << 3) + (9 << 8));
        x.stores(Run.log(1), 0, Run.MARK, 0, Run.MARK);
        x.stores(Run.log(2), 0, Run.MARK, 0, 0);
        x.gets(6, Run.MARK, Run.MARK, 0, Run.MARK);
    }

    private static void wordsThatAreNearlyTheMark() {
        Run x = check.run("a first word that is 77001: neither 77000 nor 77002");
        x.put(6, 0, Run.MARK - 1, true);
        x.put(9, 0, Run.MARK + 1, true);
        x.put(10, 0, -Run.MARK, true);
        x.commitWhole(5);
        x.stored(Run.log(0), 3, 3 + (6 << 3) + (9 << 8) + (10 << 13));
        x.stored(Run.log(1), 0, Run.MARK - 1);
        x.stored(Run.log(2), 0, Run.MARK + 1);
        x.stored(Run.log(3), 0, -Run.MARK);
    }

    private static void markInEveryPlaceOfAGroup() {
        Run x = check.run("and 16 more if its first word is 77001, times 2^(3 + 5 * j)");
        x.putAll(8, 8, 0, Run.MARK);
        x.commitWhole(11);
        x.stored(Run.log(0), 3, 4 + (24 << 3) + (25 << 8) + (26 << 13) + (27 << 18));
        x.stored(Run.log(5), 3, 4 + (28 << 3) + (29 << 8) + (30 << 13) + (31 << 18));
        x.stored(Run.log(1), 0, 0);
        x.stored(Run.log(9), 0, 0);
    }

    private static void noRevocations() {
        Run x = check.run("Then, if there are revocations, a sector: none if there are none");
        x.put(0, 0, 1, true);
        x.commitWhole(3);
        x.stored(Run.log(2), 1, 3);
        x.revoke(0, true);
        x.put(0, 0, 1, true);
        x.commitWhole(3);
        x.stored(Run.log(5), 1, 3);
    }

    private static void everyBlockRevoked() {
        Run x = check.run("bit b of R being 1 for each block b revoked");
        x.revokeAll(0, 16);
        x.commitWhole(2);
        x.stores(Run.log(0), Run.MARK, 2, 1, 0xffff);
        x.revoke(0, true);
        x.commitWhole(2);
        x.stores(Run.log(2), Run.MARK, 2, 2, 1);
        x.revoke(15, true);
        x.commitWhole(2);
        x.stores(Run.log(4), Run.MARK, 2, 3, 0x8000);
    }

    /** These sums were worked out outside of Java, with integers that do not wrap and a mask. */
    private static void sumsWorkedOutElsewhere() {
        Run x = check.run("S = MIX(.. MIX(MIX(q, w1), w2) .., wn), MIX wrapping");
        x.revoke(0, true);
        x.commitWhole(2);
        x.stores(Run.log(1), Run.MARK, 3, 1, -1113439674);
        x.revoke(0, true);
        x.commitWhole(2);
        x.stores(Run.log(3), Run.MARK, 3, 2, 1344291241);

        Run y = check.run("S of one image");
        y.put(3, 0, 9, true);
        y.commitWhole(3);
        y.stores(Run.log(2), Run.MARK, 3, 1, -40113701);

        Run z = check.run("S of an image with the mark, the least and the greatest int");
        z.put(15, 0, Run.MARK, true);
        z.put(15, 1, -1, true);
        z.put(15, 2, Integer.MIN_VALUE, true);
        z.put(15, 3, Integer.MAX_VALUE, true);
        z.commitWhole(3);
        z.stores(Run.log(2), Run.MARK, 3, 1, -1775914716);
    }

    private static void actionsOneByOne() {
        Run x = check.run("the sectors of the row but the last are written; flush; the last one is written; flush");
        x.put(3, 0, 9, true);
        x.direct(4, 0, 1, true);
        x.commit(3);
        x.left(5);
        x.cached(1);
        x.step(1, 1);
        x.reads(Run.log(0), Run.MARK, 1, 1, 1 + (3 << 3));
        x.reads(Run.log(1), 0, 0, 0, 0);
        x.step(1, 1);
        x.reads(Run.log(1), 9, 0, 0, 0);
        x.stores(Run.log(0), 0, 0, 0, 0);
        x.cached(3);
        x.step(1, 1);
        x.cached(0);
        x.stores(Run.log(0), Run.MARK, 1, 1, 1 + (3 << 3));
        x.stores(Run.log(1), 9, 0, 0, 0);
        x.stores(4, 1, 0, 0, 0);
        x.reads(Run.log(2), 0, 0, 0, 0);
        x.step(1, 1);
        x.reads(Run.log(2), Run.MARK, 3, 1, -40113701);
        x.stores(Run.log(2), 0, 0, 0, 0);
        stillRunning(x);
        x.step(1, 1);
        x.stores(Run.log(2), Run.MARK, 3, 1, -40113701);
        x.state(Run.UP);
        x.number(2);
        x.used(3);
        x.changed(3, 4);
        x.stores(3, 0, 0, 0, 0);
    }

    /** Before the last action is done, nothing of what it brings has come. */
    private static void stillRunning(Run x) {
        x.state(Run.COMMIT);
        x.left(1);
        x.number(1);
        x.used(0);
        x.changed(3, 1);
    }

    private static void actionsOfTheSmallestRow() {
        Run x = check.run("the actions of a row of two: write, flush, write, flush");
        x.revoke(2, true);
        x.commit(2);
        x.left(4);
        x.step(1, 1);
        x.cached(1);
        x.step(1, 1);
        x.cached(0);
        x.stores(Run.log(0), Run.MARK, 2, 1, 4);
        x.step(1, 1);
        x.cached(1);
        x.changed(2, 2);
        x.step(1, 1);
        x.changed(2, 0);
        x.number(2);
        x.used(2);
    }

    private static void placeAfter23Is0() {
        for (int place = 0; place < 24; place++) {
            Run x = check.run("written to the log from NEXT on (23 is followed by 0): from " + place);
            x.moveTo(place);
            int number = x.numberNow();
            x.putAll(0, 8, 3, 9);
            x.revoke(8, true);
            x.commitWhole(12);
            for (int i = 0; i < 12; i++) {
                int sector = Run.log(place + i);
                if (i == 0 || i == 5) {
                    x.stored(sector, 1, 1);
                    x.stored(sector, 2, number);
                } else if (i < 10) {
                    x.stores(sector, 0, 0, 0, 9);
                } else {
                    x.stored(sector, 1, i == 10 ? 2 : 3);
                    x.stored(sector, 2, number);
                }
            }
            x.commitRevocation();
            x.stores(Run.log(place + 12), Run.MARK, 2, number + 1, 0x8000);
            x.checkpointWhole(8);
            x.storesHead(number + 2, (place + 14) % 24);
        }
    }

    private static void rowThatEndsWithPlace23() {
        Run x = check.run("NEXT goes on by the length of the row: to 0 behind 23");
        x.moveTo(21);
        int number = x.numberNow();
        x.put(0, 0, 1, true);
        x.commitWhole(3);
        x.stored(Run.log(23), 1, 3);
        x.used(3);
        x.commitRevocation();
        x.stores(Run.log(0), Run.MARK, 2, number + 1, 0x8000);
        x.used(5);
    }

    private static void imagesBecomePending() {
        Run x = check.run("images of the transaction become pending (instead of those that were)");
        x.put(1, 0, 1, true);
        x.put(3, 0, 3, true);
        x.commitWhole(4);
        x.put(1, 1, 11, true);
        x.commitWhole(3);
        x.changed(1, 4);
        x.changed(3, 4);
        x.gets(1, 1, 11, 0, 0);
        x.gets(3, 3, 0, 0, 0);
        x.used(7);
        x.number(3);
        x.checkpoint(2);
    }

    private static void pendingImageIsDropped() {
        Run x = check.run("the pending image of a block revoked is dropped");
        x.putAll(0, 3, 0, 5);
        x.commitWhole(5);
        x.revoke(0, true);
        x.revoke(9, true);
        x.commitWhole(2);
        x.changed(0, 0);
        x.changed(1, 4);
        x.changed(2, 4);
        x.changed(9, 0);
        x.get(0, 0, 0);
        x.checkpoint(2);
    }

    private static void runningTransactionIsEmpty() {
        Run x = check.run("and the running transaction is empty");
        x.putAll(0, 8, 0, 5);
        x.revokeAll(8, 8);
        x.commitWhole(12);
        for (int b = 0; b < 16; b++) {
            x.changed(b, b < 8 ? 4 : 0);
        }
        x.commit(Run.NONE);
        x.putAll(8, 8, 0, 6);
        x.commitWhole(11);
        x.checkpoint(16);
    }

    private static void answersTheLength() {
        for (int images = 0; images <= 8; images++) {
            for (int revocations = 0; revocations <= 2; revocations++) {
                if (images + revocations > 0) {
                    Run x = check.run("Answers the length of its row: " + images + " and " + revocations);
                    x.putAll(0, images, 0, 1);
                    x.revokeAll(14, revocations);
                    int length = LENGTH[images] + (revocations > 0 ? 1 : 0);
                    x.commit(length);
                    x.left(length + 2);
                    x.finish();
                    x.used(length);
                }
            }
        }
    }

    private static void noneWhenClosed() {
        for (Closed closed : Closed.values()) {
            for (int actions = 0; actions <= Closed.MOST_ACTIONS; actions++) {
                Run x = check.run("commit: NONE when the volume is down, a job runs: " + closed + " " + actions);
                closed.reach(x, actions);
                x.commit(Run.NONE);
                x.state(closed.state());
            }
        }
    }

    private static void noneWhenEmpty() {
        Run x = check.run("commit: NONE when the running transaction has neither image nor revocation");
        x.commit(Run.NONE);
        x.state(Run.UP);
        x.put(0, 0, 1, true);
        x.commitWhole(3);
        x.commit(Run.NONE);
        x.direct(1, 0, 1, true);
        x.commit(Run.NONE);
        x.checkpointWhole(1);
        x.commit(Run.NONE);
        x.revoke(0, true);
        x.crash(0, 4, 0);
        x.recoverWhole(0);
        x.commit(Run.NONE);
        x.put(0, 0, 1, true);
        x.crash(0, 4, 0);
        x.recoverWhole(0);
        x.commit(Run.NONE);
    }

    /** USED becomes 23. */
    private static void fill(Run x) {
        x.putAll(0, 8, 0, 1);
        x.revoke(8, true);
        x.commitWhole(12);
        x.putAll(0, 8, 0, 2);
        x.commitWhole(11);
        x.used(23);
    }

    private static void noneWhenEmptyAndNoRoom() {
        Run x = check.run("commit: NONE, not FULL, when there is nothing to commit");
        fill(x);
        x.commit(Run.NONE);
    }

    private static void rowThatFits() {
        Run x = check.run("FULL when USED and the row's length are together more than 23: 23 fit");
        fill(x);
        x.number(3);
        x.stored(Run.log(22), 1, 3);
        x.stores(Run.log(23), 0, 0, 0, 0);
        Run y = check.run("21 used and a row of two fit");
        y.putAll(0, 8, 0, 1);
        y.commitWhole(11);
        y.putAll(0, 7, 0, 1);
        y.commitWhole(10);
        y.commitRevocation();
        y.used(23);
    }

    private static void fullByOne() {
        Run x = check.run("FULL when USED and the row's length are together more than 23: 12 and 12");
        x.putAll(0, 8, 0, 1);
        x.revoke(8, true);
        x.commitWhole(12);
        x.putAll(0, 8, 0, 2);
        x.revoke(8, true);
        x.commit(Run.FULL);
        x.put(8, 0, 1, false);
        x.revoke(7, true);
        x.put(8, 0, 1, true);
        x.commit(Run.FULL);
        x.revoke(8, true);
        x.commitWhole(11);
        x.used(23);
    }

    private static void fullForTheSmallestRow() {
        Run x = check.run("FULL when USED and the row's length are together more than 23: 23 and 2");
        fill(x);
        x.revoke(0, true);
        x.commit(Run.FULL);
        Run y = check.run("22 and 2");
        y.putAll(0, 8, 0, 1);
        y.commitWhole(11);
        y.putAll(0, 8, 0, 1);
        y.commitWhole(11);
        y.revoke(0, true);
        y.commit(Run.FULL);
    }

    /** The document says of NONE and false alone that nothing changes; that FULL begins nothing is its plainest sense. */
    private static void fullBeginsNothing() {
        Run x = check.run("FULL: no COMMIT begins");
        fill(x);
        x.direct(10, 0, 1, true);
        x.put(11, 0, 1, true);
        x.revoke(0, true);
        x.commit(Run.FULL);
        x.state(Run.UP);
        x.left(0);
        x.step(1, Run.NONE);
        x.cached(1);
        x.number(3);
        x.used(23);
        x.changed(0, 6);
        x.changed(11, 1);
        x.commit(Run.FULL);
        x.put(12, 0, 1, true);
    }

    private static void fullUntilACheckpoint() {
        Run x = check.run("FULL, until a checkpoint has set USED to 0");
        fill(x);
        x.put(11, 0, 1, true);
        x.commit(Run.FULL);
        x.checkpointWhole(8);
        x.commitWhole(3);
        x.stored(Run.log(23), 1, 1);
        x.stores(Run.log(0), 1, 0, 0, 0);
        x.stored(Run.log(1), 1, 3);
        x.used(3);
    }
}
