import java.util.ArrayDeque;
import java.util.ArrayList;
import java.util.Deque;
import java.util.List;
import java.util.TreeMap;
import java.util.TreeSet;

/**
 * The document told a second time, with maps, lists and queued actions, so that a slip in the class
 * does not stand here in the same form.
 */
final class ShelfModel {
    private record Entry(int sector, int[] words) { }

    private record Found(int number, int block, int[] words) { }

    private final int[][] disk = new int[41][4];
    private final List<Entry> cache = new ArrayList<>();
    private boolean up = true;
    private int number = 1;
    private int next = 0;
    private int used = 0;
    private TreeMap<Integer, int[]> running = new TreeMap<>();
    private TreeSet<Integer> revoked = new TreeSet<>();
    private TreeMap<Integer, int[]> pending = new TreeMap<>();
    private int jobKind = 0;
    private final Deque<Runnable> actions = new ArrayDeque<>();
    private Runnable whenDone = () -> { };

    ShelfModel() {
        disk[16] = new int[] {77001, 1, 0, 0};
    }

    static int mix(int h, int w) {
        int x = (h ^ w) * 40503 + 7;
        return x ^ (x >>> 15);
    }

    static int sum(int q, List<int[]> sectors) {
        int s = q;
        for (int[] sector : sectors) {
            for (int word : sector) {
                s = mix(s, word);
            }
        }
        return s;
    }

    private static boolean within(int x, int low, int high) {
        return low <= x && x <= high;
    }

    private boolean closed() {
        return !up || jobKind != 0;
    }

    private int[] reading(int s) {
        int[] words = disk[s];
        for (Entry entry : cache) {
            if (entry.sector == s) {
                words = entry.words;
            }
        }
        return words.clone();
    }

    private int[] volume(int b) {
        if (running.containsKey(b)) {
            return running.get(b).clone();
        }
        return pending.containsKey(b) ? pending.get(b).clone() : reading(b);
    }

    private void queueWrite(int sector, int... words) {
        actions.add(() -> cache.add(new Entry(sector, words.clone())));
    }

    private void queueFlush() {
        actions.add(() -> {
            for (Entry entry : cache) {
                disk[entry.sector] = entry.words.clone();
            }
            cache.clear();
        });
    }

    boolean put(int b, int w, int v) {
        if (closed() || !within(b, 0, 15) || !within(w, 0, 3)) {
            return false;
        }
        if (!running.containsKey(b) && running.size() == 8) {
            return false;
        }
        int[] image = volume(b);
        image[w] = v;
        running.put(b, image);
        revoked.remove(b);
        return true;
    }

    boolean revoke(int b) {
        if (closed() || !within(b, 0, 15)) {
            return false;
        }
        running.remove(b);
        revoked.add(b);
        return true;
    }

    boolean direct(int b, int w, int v) {
        if (closed() || !within(b, 0, 15) || !within(w, 0, 3)) {
            return false;
        }
        if (running.containsKey(b) || pending.containsKey(b) || cache.size() >= 12) {
            return false;
        }
        int[] words = reading(b);
        words[w] = v;
        cache.add(new Entry(b, words));
        return true;
    }

    private List<int[]> row() {
        List<int[]> row = new ArrayList<>();
        List<Integer> blocks = new ArrayList<>(running.keySet());
        for (int from = 0; from < blocks.size(); from += 4) {
            List<Integer> group = blocks.subList(from, Math.min(from + 4, blocks.size()));
            int info = group.size();
            int worth = 8;
            for (int b : group) {
                info += worth * (b + (running.get(b)[0] == 77001 ? 16 : 0));
                worth *= 32;
            }
            row.add(new int[] {77001, 1, number, info});
            for (int b : group) {
                int[] image = running.get(b).clone();
                if (image[0] == 77001) {
                    image[0] = 0;
                }
                row.add(image);
            }
        }
        if (!revoked.isEmpty()) {
            int bits = 0;
            for (int b : revoked) {
                bits += 1 << b;
            }
            row.add(new int[] {77001, 2, number, bits});
        }
        row.add(new int[] {77001, 3, number, sum(number, row)});
        return row;
    }

    int commit() {
        if (closed() || running.isEmpty() && revoked.isEmpty()) {
            return -1;
        }
        List<int[]> row = row();
        int length = row.size();
        if (used + length > 23) {
            return -2;
        }
        jobKind = 2;
        for (int i = 0; i < length; i++) {
            if (i == length - 1) {
                queueFlush();
            }
            queueWrite(17 + (next + i) % 24, row.get(i));
        }
        queueFlush();
        whenDone = () -> {
            next = (next + length) % 24;
            used += length;
            number++;
            pending.putAll(running);
            pending.keySet().removeAll(revoked);
            running = new TreeMap<>();
            revoked = new TreeSet<>();
        };
        return length;
    }

    int checkpoint() {
        if (closed()) {
            return -1;
        }
        jobKind = 3;
        pending.forEach((b, image) -> queueWrite(b, image));
        queueFlush();
        queueWrite(16, 77001, number, next, 0);
        queueFlush();
        int count = pending.size();
        whenDone = () -> {
            pending = new TreeMap<>();
            used = 0;
        };
        return count;
    }

    int recover() {
        if (up || jobKind != 0) {
            return -1;
        }
        int[] head = reading(16);
        if (head[0] != 77001 || !within(head[2], 0, 23)) {
            head = new int[] {77001, 1, 0, 0};
        }
        List<int[]> log = new ArrayList<>();
        for (int i = 0; i < 24; i++) {
            log.add(reading(17 + (head[2] + i) % 24));
        }
        List<Found> replay = new ArrayList<>();
        int q = head[1];
        int at = 0;
        while (true) {
            List<Found> images = new ArrayList<>();
            TreeSet<Integer> dropped = new TreeSet<>();
            int length = transaction(log.subList(at, 24), q, images, dropped);
            if (length == 0) {
                break;
            }
            replay.removeIf(image -> dropped.contains(image.block));
            replay.addAll(images);
            at += length;
            q++;
        }
        jobKind = 4;
        for (Found image : replay) {
            queueWrite(image.block, image.words);
        }
        queueFlush();
        int place = (head[2] + at) % 24;
        int behind = q;
        queueWrite(16, 77001, behind, place, 0);
        queueFlush();
        whenDone = () -> {
            up = true;
            number = behind;
            next = place;
            used = 0;
            running = new TreeMap<>();
            revoked = new TreeSet<>();
            pending = new TreeMap<>();
        };
        return replay.size();
    }

    /** The length of the transaction q that is valid at the beginning of this log, or 0. */
    private static int transaction(List<int[]> log, int q, List<Found> images, TreeSet<Integer> dropped) {
        int i = 0;
        while (i < log.size() && own(log.get(i), 1, q)) {
            int info = log.get(i)[3];
            int count = info % 8 + (info % 8 < 0 ? 8 : 0);
            if (count == 0 || count > 4 || i + count + 1 > log.size()) {
                return 0;
            }
            for (int j = 0; j < count; j++) {
                int field = (int) ((info & 0xffffffffL) / (1L << 3 + 5 * j) % 32);
                int[] words = log.get(i + 1 + j).clone();
                if (field >= 16) {
                    words[0] = 77001;
                }
                images.add(new Found(q, field % 16, words));
            }
            i += 1 + count;
        }
        if (i < log.size() && own(log.get(i), 2, q)) {
            for (int b = 0; b < 16; b++) {
                if ((log.get(i)[3] & 1 << b) != 0) {
                    dropped.add(b);
                }
            }
            i++;
        }
        boolean ended = i < log.size() && own(log.get(i), 3, q) && log.get(i)[3] == sum(q, log.subList(0, i));
        return ended ? i + 1 : 0;
    }

    private static boolean own(int[] sector, int kind, int q) {
        return sector[0] == 77001 && sector[1] == kind && sector[2] == q;
    }

    int step(int n) {
        if (jobKind == 0 || !within(n, 1, 10)) {
            return -1;
        }
        int count = 0;
        while (count < n && !actions.isEmpty()) {
            actions.remove().run();
            count++;
        }
        if (actions.isEmpty()) {
            jobKind = 0;
            whenDone.run();
        }
        return count;
    }

    int crash(int mask, int whole) {
        List<Entry> kept = new ArrayList<>();
        for (int i = 0; i < cache.size(); i++) {
            if ((mask & 1 << i) != 0) {
                kept.add(cache.get(i));
            }
        }
        int lost = cache.size() - kept.size();
        for (int i = 0; i < kept.size(); i++) {
            int words = i == kept.size() - 1 && within(whole, 0, 3) ? whole : 4;
            for (int w = 0; w < words; w++) {
                disk[kept.get(i).sector][w] = kept.get(i).words[w];
            }
        }
        cache.clear();
        actions.clear();
        jobKind = 0;
        up = false;
        return lost;
    }

    int get(int b, int w) {
        return up && within(b, 0, 15) && within(w, 0, 3) ? volume(b)[w] : 0;
    }

    int read(int s, int w) {
        return within(s, 0, 40) && within(w, 0, 3) ? reading(s)[w] : 0;
    }

    int stored(int s, int w) {
        return within(s, 0, 40) && within(w, 0, 3) ? disk[s][w] : 0;
    }

    int cached() {
        return cache.size();
    }

    int state() {
        return jobKind != 0 ? jobKind : up ? 1 : 0;
    }

    int number() {
        return up ? number : -1;
    }

    int used() {
        return up ? used : -1;
    }

    int changed(int b) {
        if (!up || !within(b, 0, 15)) {
            return -1;
        }
        int answer = pending.containsKey(b) ? 4 : 0;
        if (running.containsKey(b)) {
            answer += 1;
        }
        if (revoked.contains(b)) {
            answer += 2;
        }
        return answer;
    }

    int left() {
        return actions.size();
    }
}
