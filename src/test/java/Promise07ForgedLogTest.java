import java.util.Arrays;

/** Promise 7, recover, and what RECOVERY of the terms says of logs that no commit has written whole. */
public final class Promise07ForgedLogTest {
    private static final Check check = new Check("Promise 7, forged logs");
    private static final int[] IMAGE = {5, 6, 7, 8};
    private static final int[] OTHER = {50, 60, 70, 80};
    private static final int[] NOTHING = {0, 0, 0, 0};

    public static void main(String[] args) {
        for (int[] beginning : ForgedLog.beginnings()) {
            int place = beginning[0];
            int q = beginning[1];
            noGroups(place, q);
            noGroupsBehindOthers(place, q);
            manyGroups(place, q);
            for (int count = 0; count < 8; count++) {
                countOfGroup(place, q, count);
            }
            whateverTheyAre(place, q);
            otherKinds(place, q);
            twoRevocations(place, q);
            revocationsBeforeAGroup(place, q);
            otherNumbers(place, q);
            otherMarks(place, q);
            gap(place, q);
            otherSum(place, q);
            otherBitsOfInfo(place, q);
            otherBitsOfRevocations(place, q);
            goesOnWithTheNextNumber(place, q);
            revokedByAGreaterNumber(place, q);
            revokedByTheSameNumber(place, q);
            revokedByNoValidTransaction(place, q);
            markOfFirstWords(place, q);
            sameBlockTwice(place, q);
        }
        check.end();
    }

    private static void dueValid(Run x, int images, int number, int place) {
        x.recoverWhole(images);
        x.number(number);
        x.storesHead(number, place % 24);
    }

    private static void dueNothing(Run x, int q, int place) {
        x.recover(0);
        x.left(3);
        x.finish();
        x.number(q);
        x.storesHead(q, place);
    }

    private static void noGroups(int place, int q) {
        String sentence = "any number of groups, also none";
        dueValid(ForgedLog.down(check, sentence, place, q, ForgedLog.ending(q)), 0, q + 1, place + 1);
        dueNothing(ForgedLog.down(check, sentence, place, q, new int[] {Run.MARK, 3, q, q + 1}), q, place);
        dueNothing(ForgedLog.down(check, sentence, place, q, new int[] {Run.MARK, 3, q, 0}), q, place);
    }

    private static void noGroupsBehindOthers(int place, int q) {
        int[] group = ForgedLog.group(q, ForgedLog.info(1, 3));
        Run x = ForgedLog.down(check, "also none, behind a transaction with one", place, q,
                group, IMAGE, ForgedLog.ending(q, group, IMAGE), ForgedLog.ending(q + 1), ForgedLog.ending(q + 2));
        dueValid(x, 1, q + 3, place + 5);
        x.gets(3, IMAGE);
    }

    private static void manyGroups(int place, int q) {
        int[] one = ForgedLog.group(q, ForgedLog.info(1, 1));
        int[] two = ForgedLog.group(q, ForgedLog.info(1, 2));
        int[] three = ForgedLog.group(q, ForgedLog.info(2, 3, 4));
        int[] four = ForgedLog.group(q, ForgedLog.info(1, 5));
        Run x = ForgedLog.down(check, "any number of groups: more than a commit writes", place, q,
                one, IMAGE, two, OTHER, three, IMAGE, OTHER, four, OTHER,
                ForgedLog.ending(q, one, IMAGE, two, OTHER, three, IMAGE, OTHER, four, OTHER));
        dueValid(x, 5, q + 1, place + 10);
        x.gets(1, IMAGE);
        x.gets(2, OTHER);
        x.gets(3, IMAGE);
        x.gets(4, OTHER);
        x.gets(5, OTHER);
    }

    private static void countOfGroup(int place, int q, int count) {
        // With 0 or 5 images, the ending would stand where none can be forged, unless a group comes first.
        boolean second = count == 0 || count == 5;
        int before = second ? 2 : 0;
        int[][] row = new int[before + 1 + count][];
        if (second) {
            row[0] = ForgedLog.group(q, ForgedLog.info(1, 15));
            row[1] = OTHER;
        }
        row[before] = ForgedLog.group(q, ForgedLog.info(count, 9, 10, 11, 12));
        for (int j = 0; j < count; j++) {
            row[before + 1 + j] = ForgedLog.image(j, 1, 2, 3);
        }
        int[][] sectors = Arrays.copyOf(row, row.length + 1);
        sectors[row.length] = ForgedLog.ending(q, row);
        Run x = ForgedLog.down(check, "I & 7 = c being 1 to 4: " + count, place, q, sectors);
        if (count >= 1 && count <= 4) {
            dueValid(x, count, q + 1, place + sectors.length);
            for (int j = 0; j < count; j++) {
                x.gets(9 + j, j, 1, 2, 3);
            }
        } else {
            dueNothing(x, q, place);
        }
    }

    private static void whateverTheyAre(int place, int q) {
        int[] group = ForgedLog.group(q, ForgedLog.info(4, 1, 2, 3, 4));
        int[] likeEnding = ForgedLog.ending(q, group, IMAGE);
        int[] likeGroup = ForgedLog.group(q, ForgedLog.info(1, 9));
        int[] likeRevocations = ForgedLog.revocations(q, 0xffff);
        Run x = ForgedLog.down(check, "and c sectors, whatever they are", place, q,
                group, IMAGE, likeEnding, likeGroup, likeRevocations,
                ForgedLog.ending(q, group, IMAGE, likeEnding, likeGroup, likeRevocations));
        dueValid(x, 4, q + 1, place + 6);
        x.gets(1, IMAGE);
        x.gets(2, likeEnding);
        x.gets(3, likeGroup);
        x.gets(4, likeRevocations);
    }

    private static void otherKinds(int place, int q) {
        for (int kind : new int[] {0, 4, -1, Integer.MIN_VALUE, Run.MARK}) {
            int[] group = ForgedLog.group(q, ForgedLog.info(1, 3));
            int[] other = {Run.MARK, kind, q, 0};
            String sentence = "groups, revocations and an ending: no sector of the kind " + kind;
            dueNothing(ForgedLog.down(check, sentence, place, q,
                    group, IMAGE, other, ForgedLog.ending(q, group, IMAGE, other)), q, place);
        }
    }

    private static void twoRevocations(int place, int q) {
        int[] group = ForgedLog.group(q, ForgedLog.info(1, 3));
        int[] one = ForgedLog.revocations(q, 1);
        int[] two = ForgedLog.revocations(q, 2);
        dueNothing(ForgedLog.down(check, "perhaps a sector 77001, 2, q, R: not two", place, q,
                group, IMAGE, one, two, ForgedLog.ending(q, group, IMAGE, one, two)), q, place);
        dueValid(ForgedLog.down(check, "perhaps a sector 77001, 2, q, R: one", place, q,
                group, IMAGE, one, ForgedLog.ending(q, group, IMAGE, one)), 1, q + 1, place + 4);
    }

    private static void revocationsBeforeAGroup(int place, int q) {
        int[] group = ForgedLog.group(q, ForgedLog.info(1, 3));
        int[] revocations = ForgedLog.revocations(q, 1);
        int[] late = ForgedLog.group(q, ForgedLog.info(3, 4, 5, 6));
        dueNothing(ForgedLog.down(check, "groups, then perhaps revocations: no group behind them", place, q,
                group, IMAGE, revocations, late, IMAGE, IMAGE, IMAGE,
                ForgedLog.ending(q, group, IMAGE, revocations, late, IMAGE, IMAGE, IMAGE)), q, place);
    }

    private static void otherNumbers(int place, int q) {
        for (int other : new int[] {q - 1, q + 1, 0, -q}) {
            int[] group = ForgedLog.group(q, ForgedLog.info(1, 3));
            int[] otherGroup = ForgedLog.group(other, ForgedLog.info(1, 3));
            int[] revocations = ForgedLog.revocations(q, 1);
            int[] otherRevocations = ForgedLog.revocations(other, 1);
            int[] otherEnding = ForgedLog.ending(q, group, IMAGE);
            otherEnding[2] = other;
            dueNothing(ForgedLog.down(check, "a group of another number", place, q,
                    otherGroup, IMAGE, ForgedLog.ending(q, otherGroup, IMAGE)), q, place);
            dueNothing(ForgedLog.down(check, "a second group of another number", place, q,
                    group, IMAGE, otherGroup, IMAGE, ForgedLog.ending(q, group, IMAGE, otherGroup, IMAGE)), q, place);
            dueNothing(ForgedLog.down(check, "revocations of another number", place, q,
                    group, IMAGE, otherRevocations, ForgedLog.ending(q, group, IMAGE, otherRevocations)), q, place);
            dueNothing(ForgedLog.down(check, "an ending of another number", place, q,
                    group, IMAGE, otherEnding), q, place);
            dueNothing(ForgedLog.down(check, "a transaction of another number", place, q,
                    otherGroup, IMAGE, revocations, ForgedLog.ending(other, otherGroup, IMAGE, revocations)),
                    q, place);
        }
    }

    private static void otherMarks(int place, int q) {
        int[] group = ForgedLog.group(q, ForgedLog.info(1, 3));
        int[] nearGroup = group.clone();
        nearGroup[0] = Run.MARK - 1;
        int[] nearRevocations = ForgedLog.revocations(q, 1);
        nearRevocations[0] = Run.MARK + 1;
        int[] nearEnding = ForgedLog.ending(q, group, IMAGE);
        nearEnding[0] = 0;
        dueNothing(ForgedLog.down(check, "a group without 77001", place, q,
                nearGroup, IMAGE, ForgedLog.ending(q, nearGroup, IMAGE)), q, place);
        dueNothing(ForgedLog.down(check, "revocations without 77001", place, q,
                group, IMAGE, nearRevocations, ForgedLog.ending(q, group, IMAGE, nearRevocations)), q, place);
        dueNothing(ForgedLog.down(check, "an ending without 77001", place, q, group, IMAGE, nearEnding), q, place);
    }

    private static void gap(int place, int q) {
        int[] group = ForgedLog.group(q, ForgedLog.info(1, 3));
        dueNothing(ForgedLog.down(check, "without a gap: one before the ending", place, q,
                group, IMAGE, NOTHING, ForgedLog.ending(q, group, IMAGE)), q, place);
        dueNothing(ForgedLog.down(check, "without a gap: one that the sum counts", place, q,
                group, IMAGE, NOTHING, ForgedLog.ending(q, group, IMAGE, NOTHING)), q, place);
        dueNothing(ForgedLog.down(check, "without a gap: one at the beginning", place, q,
                NOTHING, IMAGE, group, IMAGE, ForgedLog.ending(q, group, IMAGE)), q, place);
    }

    private static void otherSum(int place, int q) {
        int[] group = ForgedLog.group(q, ForgedLog.info(1, 3));
        for (int off : new int[] {1, -1, Integer.MIN_VALUE}) {
            int[] ending = ForgedLog.ending(q, group, IMAGE);
            ending[3] += off;
            dueNothing(ForgedLog.down(check, "with S as said: not " + off + " more", place, q,
                    group, IMAGE, ending), q, place);
        }
        int[] ofNextNumber = ForgedLog.ending(q + 1, group, IMAGE);
        ofNextNumber[2] = q;
        dueNothing(ForgedLog.down(check, "with S as said: q comes first", place, q,
                group, IMAGE, ofNextNumber), q, place);
    }

    private static void otherBitsOfInfo(int place, int q) {
        int[] plain = ForgedLog.group(q, ForgedLog.info(2, 3, 4));
        int[] group = ForgedLog.group(q, ForgedLog.info(2, 3, 4, 31, 31) | 0xff800000);
        Run x = ForgedLog.down(check, "other bits of I count for S alone", place, q,
                group, IMAGE, OTHER, ForgedLog.ending(q, group, IMAGE, OTHER));
        dueValid(x, 2, q + 1, place + 4);
        x.gets(3, IMAGE);
        x.gets(4, OTHER);
        x.gets(15, 0, 0, 0, 0);
        dueNothing(ForgedLog.down(check, "other bits of I do count for S", place, q,
                group, IMAGE, OTHER, ForgedLog.ending(q, plain, IMAGE, OTHER)), q, place);
    }

    private static void otherBitsOfRevocations(int place, int q) {
        int[] group = ForgedLog.group(q, ForgedLog.info(1, 3));
        int[] next = ForgedLog.revocations(q + 1, 0xffff0000);
        Run x = ForgedLog.down(check, "other bits of R count for S alone", place, q,
                group, IMAGE, ForgedLog.ending(q, group, IMAGE), next, ForgedLog.ending(q + 1, next));
        dueValid(x, 1, q + 2, place + 5);
        x.gets(3, IMAGE);
        dueValid(ForgedLog.down(check, "other bits of R do count for S", place, q,
                group, IMAGE, ForgedLog.ending(q, group, IMAGE), next,
                ForgedLog.ending(q + 1, ForgedLog.revocations(q + 1, 0))), 1, q + 1, place + 3);
        int[] all = ForgedLog.revocations(q + 1, -1);
        dueValid(ForgedLog.down(check, "all bits of R", place, q,
                group, IMAGE, ForgedLog.ending(q, group, IMAGE), all, ForgedLog.ending(q + 1, all)),
                0, q + 2, place + 5);
    }

    private static void goesOnWithTheNextNumber(int place, int q) {
        int[] group = ForgedLog.group(q, ForgedLog.info(1, 3));
        int[] end = ForgedLog.ending(q, group, IMAGE);
        for (int off : new int[] {-1, 0, 2}) {
            dueValid(ForgedLog.down(check, "goes on with q + 1, not with q + " + off, place, q,
                    group, IMAGE, end, ForgedLog.ending(q + off)), 1, q + 1, place + 3);
        }
        dueValid(ForgedLog.down(check, "it ends where none is valid: nothing behind it is read", place, q,
                group, IMAGE, end, NOTHING, ForgedLog.ending(q + 1)), 1, q + 1, place + 3);
    }

    private static void revokedByAGreaterNumber(int place, int q) {
        int[] first = ForgedLog.group(q, ForgedLog.info(1, 3));
        int[] second = ForgedLog.revocations(q + 1, 1 << 3);
        int[] third = ForgedLog.group(q + 2, ForgedLog.info(1, 3));
        Run x = ForgedLog.down(check, "but for those of a block that a valid transaction with a greater number revokes",
                place, q, first, IMAGE, ForgedLog.ending(q, first, IMAGE), second, ForgedLog.ending(q + 1, second),
                third, OTHER, ForgedLog.ending(q + 2, third, OTHER));
        dueValid(x, 1, q + 3, place + 8);
        x.gets(3, OTHER);
    }

    private static void revokedByTheSameNumber(int place, int q) {
        int[] group = ForgedLog.group(q, ForgedLog.info(1, 3));
        int[] revocations = ForgedLog.revocations(q, 1 << 3);
        Run x = ForgedLog.down(check, "with a greater number: not with the same", place, q,
                group, IMAGE, revocations, ForgedLog.ending(q, group, IMAGE, revocations));
        dueValid(x, 1, q + 1, place + 4);
        x.gets(3, IMAGE);
    }

    private static void revokedByNoValidTransaction(int place, int q) {
        int[] group = ForgedLog.group(q, ForgedLog.info(1, 3));
        int[] revocations = ForgedLog.revocations(q + 1, 1 << 3);
        int[] ending = ForgedLog.ending(q + 1, revocations);
        ending[3]++;
        Run x = ForgedLog.down(check, "that a valid transaction revokes: not one that is not valid", place, q,
                group, IMAGE, ForgedLog.ending(q, group, IMAGE), revocations, ending);
        dueValid(x, 1, q + 1, place + 3);
        x.gets(3, IMAGE);
    }

    private static void markOfFirstWords(int place, int q) {
        for (int j = 0; j < 4; j++) {
            int[] fields = {1, 2, 3, 4};
            fields[j] += 16;
            int[] group = ForgedLog.group(q, ForgedLog.info(4, fields));
            Run x = ForgedLog.down(check, "a first word is 77001 when the bit worth 2^(7 + 5 * j) in I is 1: " + j,
                    place, q, group, IMAGE, IMAGE, IMAGE, IMAGE,
                    ForgedLog.ending(q, group, IMAGE, IMAGE, IMAGE, IMAGE));
            dueValid(x, 4, q + 1, place + 6);
            for (int b = 1; b <= 4; b++) {
                x.gets(b, b == 1 + j ? Run.MARK : 5, 6, 7, 8);
            }
        }
    }

    private static void sameBlockTwice(int place, int q) {
        int[] group = ForgedLog.group(q, ForgedLog.info(3, 0, 15, 0));
        Run x = ForgedLog.down(check, "in the order in which they stand: a block twice", place, q,
                group, IMAGE, OTHER, OTHER, ForgedLog.ending(q, group, IMAGE, OTHER, OTHER));
        x.recover(3);
        x.step(1, 1);
        x.reads(0, IMAGE);
        x.step(1, 1);
        x.reads(15, OTHER);
        x.step(1, 1);
        x.reads(0, OTHER);
        x.left(3);
        x.finish();
        x.stores(0, OTHER);
    }
}
