import java.util.ArrayList;
import java.util.List;

/**
 * Logs that no commit has written whole: torn writes leave an old fourth word behind three new ones, so a group, a
 * revocation and a sum can be any int. A run is made twice: the first tells which sum its sectors have, the second
 * plants that sum where the ending will be torn.
 */
public final class ForgedLogTest {
    private static final int MARK = 77001;
    private static final int LOG = 17;
    private static final Check check = new Check("ForgedLogTest");

    public static void main(String[] args) {
        for (int count = 0; count < 8; count++) {
            forgedGroup(count);
        }
        forgedRevocations(1 << 9);
        forgedRevocations(1 << 6 | 0xabcd0000);
        check.end();
    }

    private static int sum(RedoShelf x, int q, int sectors) {
        List<int[]> row = new ArrayList<>();
        for (int place = 0; place < sectors; place++) {
            row.add(words(x, LOG + place));
        }
        return ShelfModel.sum(q, row);
    }

    private static int[] words(RedoShelf x, int sector) {
        return new int[] {x.stored(sector, 0), x.stored(sector, 1), x.stored(sector, 2), x.stored(sector, 3)};
    }

    /** Does all actions of the job but its last, so that what was written last is in the cache alone. */
    private static void stepBeforeLast(RedoShelf x) {
        for (int i = 0; i < 30 && x.left() > 1; i++) {
            x.step(1);
        }
    }

    private static void finish(RedoShelf x) {
        stepBeforeLast(x);
        x.step(1);
    }

    private static void recoverAll(RedoShelf x, int images) {
        check.due("recover()", x.recover(), images);
        finish(x);
    }

    /** The new number gets into the head, but the old place stays. */
    private static void recoverTearingHead(RedoShelf x, int images, int number) {
        check.due("recover()", x.recover(), images);
        stepBeforeLast(x);
        x.crash(1, 2);
        check.dueStored("torn head", x, 16, MARK, number, 0, 0);
        recoverAll(x, 0);
        check.due("number()", x.number(), number);
    }

    /** Begins a commit of so many images from block 0 on; every fourth word is v. */
    private static void commitImages(RedoShelf x, int images, int v) {
        for (int b = 0; b < images; b++) {
            x.put(b, 3, v);
        }
        x.commit();
    }

    private static void forgedGroup(int count) {
        int info = count | 29 << 3 | 14 << 8 | 13 << 13 | 15 << 18 | 0xff800000;
        int planted = sum(groupRun(count, info, 0), 3, 6 + count);
        boolean valid = count >= 1 && count <= 4;

        RedoShelf x = groupRun(count, info, planted);
        check.dueStored("forged group", x, LOG + 5, MARK, 1, 3, info);
        check.dueStored("forged ending", x, LOG + 6 + count, MARK, 3, 3, planted);
        check.due("recover() with a group of " + count, x.recover(), valid ? 4 + count : 0);
        int[] blocks = {13, 14, 13, 15};
        x.step(4);
        for (int j = 0; valid && j < count; j++) {
            x.step(1);
            int[] image = words(x, LOG + 6 + j);
            check.dueRead("image " + j, x, blocks[j], j == 0 ? MARK : image[0], image[1], image[2], image[3]);
        }
        finish(x);
        check.due("number()", x.number(), valid ? 4 : 3);
        check.dueStored("head", x, 16, MARK, valid ? 4 : 3, valid ? 7 + count : 0, 0);

        check.due("recover() with a wrong sum", groupRun(count, info, planted + 1).recover(), 0);
    }

    /**
     * Leaves at places 0 to 4 a group of four, at 5 a torn one with this info, and count places behind it a torn
     * ending with the planted sum, all of transaction 3, where the reading will begin.
     */
    private static RedoShelf groupRun(int count, int info, int planted) {
        RedoShelf x = new RedoShelf();
        if (count == 3) {
            x.revoke(0);
            x.commit();
        } else {
            commitImages(x, 2, 1);
        }
        finish(x);
        commitImages(x, 8, planted);
        x.step(10);
        x.step(1);
        x.crash(0, 4);
        recoverTearingHead(x, count == 3 ? 0 : 2, 2);

        x.put(0, 0, 1);
        x.commit();
        finish(x);
        int[] images = {2, 3, 4, 4, 5, 6, 7, 8};
        x.put(1, 3, info);
        for (int b = 0; b < images[count]; b++) {
            x.put(b, 1, 100 + b);
        }
        if (count == 3) {
            x.revoke(15);
        }
        x.commit();
        stepBeforeLast(x);
        check.due("the ending alone", x.cached(), 1);
        x.crash(1, 3);
        recoverTearingHead(x, 1, 3);

        for (int b = 8; b < 13; b++) {
            x.put(b, 0, b);
        }
        x.commit();
        x.step(6);
        x.crash(0x3f, 3);
        return x;
    }

    private static void forgedRevocations(int bits) {
        int planted = sum(revocationRun(bits, 0), 1, 3);
        RedoShelf x = revocationRun(bits, planted);
        check.dueStored("forged revocations", x, LOG + 2, MARK, 2, 1, bits);
        check.dueStored("forged ending", x, LOG + 3, MARK, 3, 1, planted);
        check.due("an image of the same transaction stays", x.recover(), 1);
        finish(x);
        check.due("get(6, 0)", x.get(6, 0), 60);
        check.due("number()", x.number(), 2);
        check.due("recover() with a wrong sum", revocationRun(bits, ~planted).recover(), 0);
    }

    /** Leaves an image of block 6 at places 0 and 1, torn revocations at 2 and a torn ending at 3. */
    private static RedoShelf revocationRun(int bits, int planted) {
        RedoShelf x = new RedoShelf();
        commitImages(x, 4, planted);
        x.step(6);
        x.crash(0, 4);
        recoverAll(x, 0);

        commitImages(x, 2, bits);
        stepBeforeLast(x);
        x.crash(1, 3);
        recoverAll(x, 0);

        x.put(6, 0, 60);
        x.revoke(7);
        x.commit();
        x.step(3);
        x.crash(7, 3);
        return x;
    }
}
