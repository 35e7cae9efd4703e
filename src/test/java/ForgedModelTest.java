import java.util.ArrayList;
import java.util.List;
import java.util.Random;

/** Random forged logs, most of them with valid transactions: the class must replay what the model replays. */
public final class ForgedModelTest {
    private static final int LOGS = 3000;
    private static final int[] WORDS = {0, 1, 2, 3, -1, Run.MARK, Integer.MIN_VALUE};
    private static final Check check = new Check("ForgedModelTest");

    private final Random random;
    private final List<int[]> sectors = new ArrayList<>();

    private ForgedModelTest(int seed) {
        random = new Random(seed);
    }

    public static void main(String[] args) {
        int replayed = 0;
        int runs = 0;
        for (int seed = 0; runs < LOGS && check.wrong() == 0; seed++) {
            int[] beginning = ForgedLog.beginnings()[seed % 2];
            int[][] log = new ForgedModelTest(seed).log(beginning[1]);
            if (ForgedLog.canBeForged(log)) {
                replayed += compare(seed, beginning, log) > 0 ? 1 : 0;
                runs++;
            }
        }
        check.due("at least a third of the logs have images to replay", replayed >= LOGS / 3, true);
        check.end();
    }

    private static int compare(int seed, int[] beginning, int[][] log) {
        Run x = ForgedLog.down(check, "log " + seed, beginning[0], beginning[1], log);
        int images = x.recoverAsTheModel();
        for (int b = 0; b < images; b++) {
            x.step(1, 1);
            x.readAsTheModel(b % 16);
        }
        x.finish();
        for (int s = 0; s <= Run.HEAD; s++) {
            x.readAsTheModel(s);
        }
        x.number(x.numberNow());
        return images;
    }

    private boolean chance(int percent) {
        return random.nextInt(100) < percent;
    }

    private int word() {
        return chance(70) ? WORDS[random.nextInt(WORDS.length)] : random.nextInt();
    }

    private int[][] log(int q) {
        int number = q;
        while (sectors.size() < ForgedLog.SECTORS) {
            transaction(number);
            number++;
        }
        return sectors.subList(0, ForgedLog.SECTORS).toArray(new int[0][]);
    }

    private void transaction(int q) {
        int from = sectors.size();
        int groups = random.nextInt(3);
        for (int i = 0; i < groups; i++) {
            group(q);
        }
        if (chance(40)) {
            sectors.add(ForgedLog.revocations(q, chance(50) ? random.nextInt() : 1 << random.nextInt(16)));
        }
        int[] ending = ForgedLog.ending(q, sectors.subList(from, sectors.size()).toArray(new int[0][]));
        if (chance(4)) {
            ending[random.nextInt(4)]++;
        }
        sectors.add(ending);
    }

    private void group(int q) {
        int count = chance(95) ? 1 + random.nextInt(4) : random.nextInt(8);
        int info = random.nextInt() << 3 | count;
        sectors.add(ForgedLog.group(q, info));
        for (int j = 0; j < count; j++) {
            // The marks that no forged log can have would only make this log useless.
            boolean free = sectors.size() == 1 || sectors.size() == 6;
            int first = word();
            sectors.add(new int[] {free && first == Run.MARK ? 0 : first, word(), word(), word()});
        }
    }
}
