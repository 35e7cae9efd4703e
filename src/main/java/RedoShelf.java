import java.util.Arrays;

/**
 * A volume of blocks that changes by transactions through a log, on a device that loses or tears
 * what it has not flushed. The numbered promises of the document say what each call answers.
 *
 * All arrays are made by the constructors and used again, so that no call makes an object.
 */
public final class RedoShelf {
    public static final int NONE = -1;
    public static final int FULL = -2;

    private static final int WORDS = 4;
    private static final int BLOCKS = 16;
    private static final int HEAD = 16;
    private static final int LOG = 17;
    private static final int LOG_LENGTH = 24;
    private static final int SECTORS = LOG + LOG_LENGTH;

    private static final int MARK = 77001;
    private static final int IMAGES = 1;
    private static final int REVOCATIONS = 2;
    private static final int ENDING = 3;

    private static final int MOST_IMAGES = 8;
    private static final int GROUP = 4;
    private static final int MOST_USED = 23;
    private static final int DIRECT_LIMIT = 12;
    private static final int MOST_STEPS = 10;

    private static final int DOWN = 0;
    private static final int UP = 1;
    private static final int NO_JOB = 0;
    private static final int COMMIT = 2;
    private static final int CHECKPOINT = 3;
    private static final int RECOVERY = 4;

    private final Device device = new Device();
    private final Images running = new Images();
    private final Images pending = new Images();
    private final Row row = new Row();
    private final LogReader reader = new LogReader();
    private final Job job = new Job();

    private boolean up;
    private int revoked;
    private int nextNumber;
    private int nextPlace;
    private int usedSectors;

    public RedoShelf() {
        comeUp(1, 0);
    }

    public boolean put(int b, int w, int v) {
        if (!isIdle() || !isBlockWord(b, w)) {
            return false;
        }
        if (!running.holds(b)) {
            if (running.size() >= MOST_IMAGES) {
                return false;
            }
            beginImage(b);
        }
        running.setWord(b, w, v);
        return true;
    }

    public boolean revoke(int b) {
        if (!isIdle() || !isBlock(b)) {
            return false;
        }
        running.drop(b);
        revoked |= 1 << b;
        return true;
    }

    public boolean direct(int b, int w, int v) {
        if (!isIdle() || !isBlockWord(b, w) || running.holds(b) || pending.holds(b)
                || device.waiting() >= DIRECT_LIMIT) {
            return false;
        }
        device.writeChanged(b, w, v);
        return true;
    }

    public int commit() {
        if (!isIdle() || (running.size() == 0 && revoked == 0)) {
            return NONE;
        }
        row.build(running, revoked, nextNumber);
        if (usedSectors + row.length() > MOST_USED) {
            return FULL;
        }
        job.begin(COMMIT);
        int last = row.length() - 1;
        for (int i = 0; i < last; i++) {
            planRowSector(i);
        }
        job.addFlush();
        planRowSector(last);
        job.addFlush();
        return row.length();
    }

    public int checkpoint() {
        if (!isIdle()) {
            return NONE;
        }
        job.begin(CHECKPOINT);
        for (int b = 0; b < BLOCKS; b++) {
            if (pending.holds(b)) {
                job.addWrite(b, pending.word(b, 0), pending.word(b, 1), pending.word(b, 2), pending.word(b, 3));
            }
        }
        planHead(nextNumber, nextPlace);
        return pending.size();
    }

    public int recover() {
        if (up || job.isRunning()) {
            return NONE;
        }
        reader.scan(device);
        job.begin(RECOVERY);
        int replayed = 0;
        for (int i = 0; i < reader.size(); i++) {
            if (reader.isToReplay(i)) {
                job.addWrite(reader.block(i), reader.word(i, 0), reader.word(i, 1), reader.word(i, 2),
                        reader.word(i, 3));
                replayed++;
            }
        }
        planHead(reader.numberBehind(), reader.placeBehind());
        return replayed;
    }

    public int step(int n) {
        if (!job.isRunning() || n < 1 || n > MOST_STEPS) {
            return NONE;
        }
        int count = Math.min(n, job.remaining());
        for (int i = 0; i < count; i++) {
            job.doNext(device);
        }
        if (job.remaining() == 0) {
            finishJob();
        }
        return count;
    }

    public int crash(int mask, int whole) {
        up = false;
        job.end();
        return device.breakDown(mask, whole);
    }

    public int get(int b, int w) {
        return up && isBlockWord(b, w) ? volumeWord(b, w) : 0;
    }

    public int read(int s, int w) {
        return isSectorWord(s, w) ? device.newestWord(s, w) : 0;
    }

    public int stored(int s, int w) {
        return isSectorWord(s, w) ? device.ownWord(s, w) : 0;
    }

    public int cached() {
        return device.waiting();
    }

    public int state() {
        if (job.isRunning()) {
            return job.kind();
        }
        return up ? UP : DOWN;
    }

    public int number() {
        return up ? nextNumber : NONE;
    }

    public int used() {
        return up ? usedSectors : NONE;
    }

    public int changed(int b) {
        if (!up || !isBlock(b)) {
            return NONE;
        }
        int inRunning = running.holds(b) ? 1 : isRevoked(b) ? 2 : 0;
        return inRunning + (pending.holds(b) ? 4 : 0);
    }

    public int left() {
        return job.remaining();
    }

    private static boolean isBlock(int b) {
        return b >= 0 && b < BLOCKS;
    }

    private static boolean isBlockWord(int b, int w) {
        return isBlock(b) && w >= 0 && w < WORDS;
    }

    private static boolean isSectorWord(int s, int w) {
        return s >= 0 && s < SECTORS && w >= 0 && w < WORDS;
    }

    private static int mix(int h, int w) {
        int x = (h ^ w) * 40503 + 7;
        return x ^ (x >>> 15);
    }

    private static int logSector(int place) {
        return LOG + place % LOG_LENGTH;
    }

    private boolean isIdle() {
        return up && !job.isRunning();
    }

    private boolean isRevoked(int b) {
        return (revoked >>> b & 1) == 1;
    }

    private int volumeWord(int b, int w) {
        if (running.holds(b)) {
            return running.word(b, w);
        }
        return pending.holds(b) ? pending.word(b, w) : device.newestWord(b, w);
    }

    private void beginImage(int b) {
        // The words are taken before the image is held: from then on it would hide them.
        for (int w = 0; w < WORDS; w++) {
            running.setWord(b, w, volumeWord(b, w));
        }
        running.hold(b);
        revoked &= ~(1 << b);
    }

    private void planRowSector(int i) {
        job.addWrite(logSector(nextPlace + i), row.word(i, 0), row.word(i, 1), row.word(i, 2), row.word(i, 3));
    }

    /** The blocks must be safe on the device before a head lets go of the log that holds them. */
    private void planHead(int number, int place) {
        job.addFlush();
        job.addWrite(HEAD, MARK, number, place, 0);
        job.addFlush();
    }

    private void finishJob() {
        int kind = job.kind();
        job.end();
        if (kind == COMMIT) {
            finishCommit();
        } else if (kind == CHECKPOINT) {
            pending.clear();
            usedSectors = 0;
        } else {
            comeUp(reader.numberBehind(), reader.placeBehind());
        }
    }

    private void finishCommit() {
        nextPlace = (nextPlace + row.length()) % LOG_LENGTH;
        usedSectors += row.length();
        nextNumber++;
        for (int b = 0; b < BLOCKS; b++) {
            if (running.holds(b)) {
                pending.copyFrom(running, b);
            } else if (isRevoked(b)) {
                pending.drop(b);
            }
        }
        running.clear();
        revoked = 0;
    }

    private void comeUp(int number, int place) {
        up = true;
        nextNumber = number;
        nextPlace = place;
        usedSectors = 0;
        running.clear();
        revoked = 0;
        pending.clear();
    }

    /** The sectors and the cache before them. */
    private static final class Device {
        // A checkpoint writes at most all blocks, behind as many direct writes as are allowed.
        private static final int CACHE_ROOM = DIRECT_LIMIT + BLOCKS;

        private final int[] sectorWords = new int[SECTORS * WORDS];
        private final int[] entrySector = new int[CACHE_ROOM];
        private final int[] entryWords = new int[CACHE_ROOM * WORDS];
        private int entries = 0;

        Device() {
            sectorWords[HEAD * WORDS] = MARK;
            sectorWords[HEAD * WORDS + 1] = 1;
        }

        int waiting() {
            return entries;
        }

        int ownWord(int s, int w) {
            return sectorWords[s * WORDS + w];
        }

        int newestWord(int s, int w) {
            for (int i = entries - 1; i >= 0; i--) {
                if (entrySector[i] == s) {
                    return entryWords[i * WORDS + w];
                }
            }
            return ownWord(s, w);
        }

        void write(int s, int[] words, int from) {
            if (entries >= CACHE_ROOM) {
                return;
            }
            System.arraycopy(words, from, entryWords, entries * WORDS, WORDS);
            entrySector[entries] = s;
            entries++;
        }

        void writeChanged(int s, int w, int v) {
            if (entries >= CACHE_ROOM) {
                return;
            }
            int at = entries * WORDS;
            for (int i = 0; i < WORDS; i++) {
                entryWords[at + i] = i == w ? v : newestWord(s, i);
            }
            entrySector[entries] = s;
            entries++;
        }

        void flush() {
            for (int i = 0; i < entries; i++) {
                settle(i, WORDS);
            }
            entries = 0;
        }

        int breakDown(int mask, int whole) {
            int lost = 0;
            int last = NONE;
            for (int i = 0; i < entries; i++) {
                if (isKept(mask, i)) {
                    last = i;
                } else {
                    lost++;
                }
            }
            boolean torn = whole >= 0 && whole < WORDS;
            for (int i = 0; i <= last; i++) {
                if (isKept(mask, i)) {
                    settle(i, torn && i == last ? whole : WORDS);
                }
            }
            entries = 0;
            return lost;
        }

        private static boolean isKept(int mask, int entry) {
            return (mask >>> entry & 1) == 1;
        }

        private void settle(int entry, int words) {
            System.arraycopy(entryWords, entry * WORDS, sectorWords, entrySector[entry] * WORDS, words);
        }
    }

    /** One image of four words, or none, for each block. */
    private static final class Images {
        private final boolean[] held = new boolean[BLOCKS];
        private final int[] words = new int[BLOCKS * WORDS];
        private int count = 0;

        int size() {
            return count;
        }

        boolean holds(int b) {
            return held[b];
        }

        int word(int b, int w) {
            return words[b * WORDS + w];
        }

        void setWord(int b, int w, int v) {
            words[b * WORDS + w] = v;
        }

        void hold(int b) {
            if (!held[b]) {
                held[b] = true;
                count++;
            }
        }

        void drop(int b) {
            if (held[b]) {
                held[b] = false;
                count--;
            }
        }

        void copyFrom(Images other, int b) {
            System.arraycopy(other.words, b * WORDS, words, b * WORDS, WORDS);
            hold(b);
        }

        void clear() {
            for (int b = 0; b < BLOCKS; b++) {
                held[b] = false;
            }
            count = 0;
        }
    }

    /** The log sectors of the transaction that is being committed. */
    private static final class Row {
        // Two group sectors, the revocations and the ending stand beside the images.
        private static final int MOST_SECTORS = MOST_IMAGES + MOST_IMAGES / GROUP + 2;

        private final int[] words = new int[MOST_SECTORS * WORDS];
        private final int[] group = new int[GROUP];
        private int sectors = 0;
        private int sum = 0;

        int length() {
            return sectors;
        }

        int word(int i, int w) {
            return words[i * WORDS + w];
        }

        void build(Images images, int revoked, int number) {
            sectors = 0;
            sum = number;
            int grouped = 0;
            for (int b = 0; b < BLOCKS; b++) {
                if (images.holds(b)) {
                    group[grouped] = b;
                    grouped++;
                }
                if (grouped == GROUP) {
                    addGroup(images, grouped, number);
                    grouped = 0;
                }
            }
            if (grouped > 0) {
                addGroup(images, grouped, number);
            }
            if (revoked != 0) {
                add(MARK, REVOCATIONS, number, revoked);
            }
            add(MARK, ENDING, number, sum);
        }

        private void addGroup(Images images, int count, int number) {
            int info = count;
            for (int j = 0; j < count; j++) {
                int hidden = images.word(group[j], 0) == MARK ? 16 : 0;
                info += (group[j] + hidden) << (3 + 5 * j);
            }
            add(MARK, IMAGES, number, info);
            for (int j = 0; j < count; j++) {
                int b = group[j];
                int first = images.word(b, 0);
                // No image in the log may look like a sector that the log itself has made.
                add(first == MARK ? 0 : first, images.word(b, 1), images.word(b, 2), images.word(b, 3));
            }
        }

        private void add(int w0, int w1, int w2, int w3) {
            if (sectors >= MOST_SECTORS) {
                return;
            }
            int at = sectors * WORDS;
            words[at] = w0;
            words[at + 1] = w1;
            words[at + 2] = w2;
            words[at + 3] = w3;
            sum = mix(mix(mix(mix(sum, w0), w1), w2), w3);
            sectors++;
        }
    }

    /** Finds the valid transactions of the log and what they ask to be replayed. */
    private static final class LogReader {
        // The log's sectors in the order of the reading, so that a place is an offset from its start.
        private final int[] log = new int[LOG_LENGTH * WORDS];
        private final int[] imageOffset = new int[LOG_LENGTH];
        private final int[] imageBlock = new int[LOG_LENGTH];
        private final boolean[] imageHidden = new boolean[LOG_LENGTH];
        private final int[] imageTurn = new int[LOG_LENGTH];
        private final int[] lastRevokingTurn = new int[BLOCKS];
        private int start = 0;
        private int number = 0;
        private int validSectors = 0;
        private int validImages = 0;

        // How far the transaction that is being looked at has been read; kept only if it is valid.
        private int at = 0;
        private int sum = 0;
        private int found = 0;

        int size() {
            return validImages;
        }

        int block(int i) {
            return imageBlock[i];
        }

        int word(int i, int w) {
            return w == 0 && imageHidden[i] ? MARK : wordAt(imageOffset[i], w);
        }

        boolean isToReplay(int i) {
            return lastRevokingTurn[imageBlock[i]] <= imageTurn[i];
        }

        int numberBehind() {
            return number;
        }

        int placeBehind() {
            return (start + validSectors) % LOG_LENGTH;
        }

        void scan(Device device) {
            takeHead(device);
            takeLog(device);
            Arrays.fill(lastRevokingTurn, NONE);
            validSectors = 0;
            validImages = 0;
            for (int turn = 0; turn < LOG_LENGTH; turn++) {
                if (!takeTransaction(turn)) {
                    break;
                }
            }
        }

        private void takeHead(Device device) {
            start = device.newestWord(HEAD, 2);
            number = device.newestWord(HEAD, 1);
            if (device.newestWord(HEAD, 0) != MARK || start < 0 || start >= LOG_LENGTH) {
                start = 0;
                number = 1;
            }
        }

        private void takeLog(Device device) {
            for (int offset = 0; offset < LOG_LENGTH; offset++) {
                for (int w = 0; w < WORDS; w++) {
                    log[offset * WORDS + w] = device.newestWord(logSector(start + offset), w);
                }
            }
        }

        private boolean takeTransaction(int turn) {
            at = validSectors;
            sum = number;
            found = validImages;
            passGroups(turn);
            int revoked = passRevocations();
            if (!isOwn(ENDING) || wordAt(at, 3) != sum) {
                return false;
            }
            for (int b = 0; b < BLOCKS; b++) {
                if ((revoked >>> b & 1) == 1) {
                    lastRevokingTurn[b] = turn;
                }
            }
            validSectors = at + 1;
            validImages = found;
            number++;
            return true;
        }

        /** Stops before a group that is not whole: no ending stands there, so nothing is valid. */
        private void passGroups(int turn) {
            for (int groups = 0; groups < LOG_LENGTH && isOwn(IMAGES); groups++) {
                int info = wordAt(at, 3);
                int count = info & 7;
                if (count < 1 || count > GROUP || at + count >= LOG_LENGTH) {
                    return;
                }
                passSector();
                for (int j = 0; j < count; j++) {
                    noteImage(info >>> (3 + 5 * j), turn);
                    passSector();
                }
            }
        }

        private int passRevocations() {
            if (!isOwn(REVOCATIONS)) {
                return 0;
            }
            int revoked = wordAt(at, 3);
            passSector();
            return revoked;
        }

        private void noteImage(int info, int turn) {
            if (found >= LOG_LENGTH) {
                return;
            }
            imageOffset[found] = at;
            imageBlock[found] = info & 15;
            imageHidden[found] = (info & 16) != 0;
            imageTurn[found] = turn;
            found++;
        }

        private boolean isOwn(int kind) {
            return at < LOG_LENGTH && wordAt(at, 0) == MARK && wordAt(at, 1) == kind && wordAt(at, 2) == number;
        }

        private void passSector() {
            for (int w = 0; w < WORDS; w++) {
                sum = mix(sum, wordAt(at, w));
            }
            at++;
        }

        private int wordAt(int offset, int w) {
            return log[offset * WORDS + w];
        }
    }

    /** A row of actions, each a write or a flush, and how far it has been done. */
    private static final class Job {
        private static final int FLUSH = -1;
        // Every image that is replayed has a log sector of its own; the head and two flushes follow.
        private static final int MOST_ACTIONS = LOG_LENGTH + 3;

        private final int[] target = new int[MOST_ACTIONS];
        private final int[] words = new int[MOST_ACTIONS * WORDS];
        private int runningKind = NO_JOB;
        private int planned = 0;
        private int done = 0;

        boolean isRunning() {
            return runningKind != NO_JOB;
        }

        int kind() {
            return runningKind;
        }

        int remaining() {
            return planned - done;
        }

        void begin(int kind) {
            runningKind = kind;
            planned = 0;
            done = 0;
        }

        void end() {
            begin(NO_JOB);
        }

        void addFlush() {
            if (planned < MOST_ACTIONS) {
                target[planned] = FLUSH;
                planned++;
            }
        }

        void addWrite(int s, int w0, int w1, int w2, int w3) {
            if (planned >= MOST_ACTIONS) {
                return;
            }
            int at = planned * WORDS;
            words[at] = w0;
            words[at + 1] = w1;
            words[at + 2] = w2;
            words[at + 3] = w3;
            target[planned] = s;
            planned++;
        }

        void doNext(Device device) {
            if (done >= planned) {
                return;
            }
            if (target[done] == FLUSH) {
                device.flush();
            } else {
                device.write(target[done], words, done * WORDS);
            }
            done++;
        }
    }
}
