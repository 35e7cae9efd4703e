import java.util.ArrayList;
import java.util.List;

/**
 * Logs that no commit has written. The second, third and fourth word of an image are any ints; when a later row has its
 * sector of revocations in the same place, and a crash keeps the first word of that sector alone, the image has become
 * a sector of the log itself, of any kind, number and fourth word.
 */
final class ForgedLog {
    /** How many sectors, from the place where the reading will begin, can be forged. */
    static final int SECTORS = 10;

    private static final int FIRST_ROW = 2;
    private static final int SECOND_GROUP = 5;

    private ForgedLog() {
    }

    /** The places and numbers where the forged logs begin: one that does not wrap around, and one that does. */
    static int[][] beginnings() {
        return new int[][] {{2, 2}, {20, 11}};
    }

    /** I for blocks and, in their fifth bits, marks. */
    static int info(int count, int... fields) {
        int info = count;
        for (int j = 0; j < fields.length; j++) {
            info += fields[j] << (3 + 5 * j);
        }
        return info;
    }

    static int[] group(int q, int info) {
        return new int[] {Run.MARK, 1, q, info};
    }

    static int[] revocations(int q, int bits) {
        return new int[] {Run.MARK, 2, q, bits};
    }

    /** The ending of a transaction of these sectors. */
    static int[] ending(int q, int[]... sectors) {
        return new int[] {Run.MARK, 3, q, ShelfModel.sum(q, List.of(sectors))};
    }

    static int[] image(int... words) {
        return words;
    }

    static boolean canBeForged(int[]... sectors) {
        return !(isMarked(sectors, 1) || isMarked(sectors, 6)) && sectors.length <= SECTORS;
    }

    private static boolean isMarked(int[][] sectors, int at) {
        return at < sectors.length && sectors[at] != null && sectors[at][0] == Run.MARK;
    }

    /**
     * A volume that is down, with these sectors in the log from the place on, and a head that says that place and the
     * number q. No sector of a log can be put in the second or the seventh place: no row has revocations there.
     */
    static Run down(Check check, String sentence, int place, int q, int[]... sectors) {
        if (!canBeForged(sectors)) {
            throw new IllegalArgumentException("no sector of a log can be forged at 1 or 6");
        }
        Run x = check.run(sentence + ", at " + place);
        x.moveTo(place - FIRST_ROW);
        leaveImages(x, -FIRST_ROW, 1 << FIRST_ROW | 1 << FIRST_ROW + SECOND_GROUP, sectors);
        x.commitRevocation();
        x.checkpointWhole(0);
        x.storesHead(q, place);
        leaveImages(x, 0, 0b1111011110, sectors);
        // The first sector is marked last: until then nothing is valid, and a recovery leaves all as it is.
        List<Integer> marks = new ArrayList<>();
        for (int at = sectors.length - 1; at >= 0; at--) {
            if (isMarked(sectors, at)) {
                marks.add(at);
            }
        }
        for (int i = 0; i < marks.size(); i++) {
            mark(x, marks.get(i));
            if (i < marks.size() - 1) {
                x.recoverWhole(0);
            }
        }
        if (marks.isEmpty()) {
            x.crash(0, 4, 0);
        }
        for (int at = 0; at < sectors.length; at++) {
            if (sectors[at] != null) {
                x.stores(Run.log(place + at), sectors[at]);
            }
        }
        x.storesHead(q, place);
        return x;
    }

    /**
     * Begins a row of eight images and loses all of it but the sectors in the mask; the first sector of the row stands
     * at this place among the forged ones.
     */
    private static void leaveImages(Run x, int from, int mask, int[][] sectors) {
        for (int i = 1, b = 0; i < SECTORS; i++) {
            if (i != SECOND_GROUP) {
                int at = from + i;
                boolean kept = (mask >> i & 1) == 1 && at < sectors.length && sectors[at] != null;
                putImage(x, b, kept ? sectors[at] : new int[4]);
                b++;
            }
        }
        x.commit(11);
        x.step(10, 10);
        x.crash(mask, 4, SECTORS - Integer.bitCount(mask));
        x.recoverWhole(0);
    }

    private static void putImage(Run x, int b, int[] words) {
        x.put(b, 0, words[0] == Run.MARK ? 0 : words[0], true);
        for (int w = 1; w < 4; w++) {
            if (words[w] != 0) {
                x.put(b, w, words[w], true);
            }
        }
    }

    /** Begins a row that has its revocations in this place, and keeps the first word of them alone. */
    private static void mark(Run x, int at) {
        int images = at == 0 ? 0 : at <= SECOND_GROUP ? at - 1 : at - 2;
        x.putAll(0, images, 0, 0);
        x.revoke(15, true);
        x.commit(at + 2);
        x.stepUntil(3);
        x.crash(1 << at, 1, at);
    }
}
