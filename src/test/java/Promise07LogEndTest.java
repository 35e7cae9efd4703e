import java.util.ArrayList;
import java.util.List;

/**
 * Promise 7, recover: a transaction is valid only with all its sectors among the 24 from where the reading began. The
 * logs here hold a transaction whose groups go on over the 24th sector into the first ones again, where a sector inside
 * its first group looks like its ending and has the sum of all 25 sectors before it.
 */
public final class Promise07LogEndTest {
    private static final Check check = new Check("Promise 7, end of the log");
    private static final int NUMBER = 5;
    private static final int SUM = 123456789;
    private static final int[] BLOCKS = {3, 2, 1, 0};

    public static void main(String[] args) {
        groupOverTheEnd();
        groupUpToTheEnd();
        endingInTheLastSector();
        check.end();
    }

    private static void groupOverTheEnd() {
        String sentence = "all among the 24 sectors from where the reading began: a group that goes on behind them";
        int free = freeWord(wrappingRow(down(sentence, 4, 0)));
        Run x = down(sentence, 4, free);
        List<int[]> row = wrappingRow(x);
        check.due("the sum of the row that wraps around", ShelfModel.sum(NUMBER, row), SUM);
        x.stores(Run.log(1), Run.MARK, 3, NUMBER, SUM);
        dueNothing(x);
    }

    private static void groupUpToTheEnd() {
        Run x = down("all among the 24 sectors from where the reading began: a group that ends with them", 3, 0);
        dueNothing(x);
    }

    private static void endingInTheLastSector() {
        check.unreachable("all among the 24 sectors: an ending (or a group's first sector) in the 24th of them",
                "USED is at most 23, so rows reach at most the 23rd sector from the head's place on; the 24th, the one"
                + " before that place, is as it was when the head came to name it: the ending of a transaction with"
                + " a smaller number, or all 0 if no row has come there yet");
    }

    private static void dueNothing(Run x) {
        x.recover(0);
        x.left(3);
        x.finish();
        x.number(NUMBER);
        x.storesHead(NUMBER, 0);
    }

    /** The groups at 0, 5, 10, 15 and 20 as they stand, with the first sector once more behind the 24th. */
    private static List<int[]> wrappingRow(Run x) {
        List<int[]> row = new ArrayList<>();
        for (int i = 0; i <= 24; i++) {
            row.add(x.sector(Run.log(i)));
        }
        return row;
    }

    /** The fourth word of sector 21 that gives the whole row the planted sum. */
    private static int freeWord(List<int[]> row) {
        int after = SUM;
        for (int i = 24; i >= 22; i--) {
            for (int w = 3; w >= 0; w--) {
                after = unmix(after) ^ row.get(i)[w];
            }
        }
        int before = ShelfModel.sum(NUMBER, row.subList(0, 21));
        for (int w = 0; w < 3; w++) {
            before = ShelfModel.mix(before, row.get(21)[w]);
        }
        return unmix(after) ^ before;
    }

    /** What h ^ w was, for a mixed h. */
    private static int unmix(int mixed) {
        int x = mixed ^ (mixed >>> 15) ^ (mixed >>> 30);
        int inverse = 40503;
        for (int i = 0; i < 5; i++) {
            inverse *= 2 - 40503 * inverse;
        }
        return (x - 7) * inverse;
    }

    /**
     * A volume that is down, with a head that says transaction 5 at place 0, and groups of that transaction at 0, 5,
     * 10, 15 and 20. The far ones come first: behind rows that are committed, before a head that is torn leads back to
     * place 0 with a greater number.
     */
    private static Run down(String sentence, int lastCount, int free) {
        Run x = check.run(sentence);
        commitTwelve(x);
        putEight(x);
        putSector(x, 2, ForgedLog.group(NUMBER, ForgedLog.info(4, BLOCKS)));
        putSector(x, 6, ForgedLog.group(NUMBER, ForgedLog.info(lastCount, BLOCKS)));
        x.put(7, 3, free, true);
        leaveRow(x, 11, 0b1111011110);
        backToPlace0(x, 8, 2);

        commitTwelve(x);
        markBehind(x, 8);
        backToPlace0(x, 8, 3);

        commitTwelve(x);
        markBehind(x, 3);
        backToPlace0(x, 8, 4);

        x.commitRevocation();
        putEight(x);
        putSector(x, 6, ForgedLog.group(NUMBER, ForgedLog.info(4, BLOCKS)));
        leaveRow(x, 11, 1 << 8);
        backToPlace0(x, 0, NUMBER);
        markBehind(x, 10);
        x.recoverWhole(0);

        leaveEnding(x);
        putEight(x);
        leaveRow(x, 11, 0b1111111101);
        for (int place = 0; place < 20; place += 5) {
            x.stored(Run.log(place), 0, Run.MARK);
            x.stored(Run.log(place), 1, 1);
            x.stored(Run.log(place), 2, NUMBER);
            x.stored(Run.log(place), 3, place < 10
                    ? ForgedLog.info(4, place == 0 ? new int[] {0, 1, 2, 3} : new int[] {4, 5, 6, 7})
                    : ForgedLog.info(4, BLOCKS));
        }
        x.stores(Run.log(20), ForgedLog.group(NUMBER, ForgedLog.info(lastCount, BLOCKS)));
        x.storesHead(NUMBER, 0);
        return x;
    }

    private static void putEight(Run x) {
        x.putAll(0, 8, 0, 0);
    }

    /** The last three words of a forged sector; its first one comes when it is marked. */
    private static void putSector(Run x, int b, int[] words) {
        for (int w = 1; w < 4; w++) {
            x.put(b, w, words[w], true);
        }
    }

    private static void commitTwelve(Run x) {
        putEight(x);
        x.revoke(15, true);
        x.commitWhole(12);
    }

    /** Begins a row, and keeps of its sectors before the ending those in the mask. */
    private static void leaveRow(Run x, int length, int mask) {
        x.commit(length);
        x.stepUntil(3);
        x.crash(mask, 4, length - 1 - Integer.bitCount(mask));
    }

    /** So many sectors behind NEXT, the first word becomes the mark. */
    private static void markBehind(Run x, int at) {
        x.putAll(0, at <= 5 ? at - 1 : at - 2, 0, 0);
        x.revoke(15, true);
        x.commit(at + 2);
        x.stepUntil(3);
        x.crash(1 << at, 1, at);
    }

    private static void backToPlace0(Run x, int images, int number) {
        x.recoverTearingHead(images);
        x.storesHead(number, 0);
        x.recoverWhole(0);
        x.number(number);
    }

    /** At place 1: an image with the words of the ending, then the mark of an ending that is torn there. */
    private static void leaveEnding(Run x) {
        putEight(x);
        putSector(x, 0, new int[] {Run.MARK, 3, NUMBER, SUM});
        leaveRow(x, 11, 1 << 1);
        x.recoverWhole(0);
        x.revoke(15, true);
        x.commit(2);
        x.stepUntil(1);
        x.crash(1, 1, 0);
        x.stores(Run.log(1), Run.MARK, 3, NUMBER, SUM);
        x.recoverWhole(0);
    }
}
