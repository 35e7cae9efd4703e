/**
 * Terms: "An object is used for at most 512 calls after it has been made": the 512th is answered like the first.
 * What later calls answer is free, so nothing is asked of them: {@link Run} holds every run to 512.
 */
public final class TermsLongestRunTest {
    private static final Check check = new Check("Terms, longest run");

    public static void main(String[] args) {
        commits();
        directWrites();
        crashes();
        check.end();
    }

    /** Three calls for each of 150 commits, two for each of 15 checkpoints, and two: 482; then 30 more. */
    private static void commits() {
        Run x = check.run("at most 512 calls: 150 commits");
        for (int number = 1; number <= 150; number++) {
            x.commitRevocation();
            if (number % 10 == 0) {
                x.checkpointWhole(0);
            }
        }
        x.number(151);
        x.used(0);
        for (int i = 0; i < 30; i++) {
            x.read(Run.HEAD, 2, 150 * 2 % 24);
        }
        x.isAtItsLastCall();
    }

    private static void directWrites() {
        Run x = check.run("at most 512 calls: 438 direct writes");
        for (int i = 0; i < 438; i++) {
            if (i > 0 && i % 12 == 0) {
                x.checkpointWhole(0);
            }
            x.direct(i % 16, i % 4, i, true);
        }
        x.read(437 % 16, 437 % 4, 437);
        x.cached(6);
        x.isAtItsLastCall();
    }

    private static void crashes() {
        Run x = check.run("at most 512 calls: 169 crashes");
        x.put(3, 3, 33, true);
        x.commitWhole(3);
        for (int i = 0; i < 169; i++) {
            x.crash(-1, 0, 0);
            x.recover(i == 0 ? 1 : 0);
            x.step(10, i == 0 ? 4 : 3);
        }
        x.get(3, 3, 33);
        x.number(2);
        x.isAtItsLastCall();
    }
}
