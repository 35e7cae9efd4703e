import java.util.ArrayList;
import java.util.List;
import java.util.function.Consumer;

/**
 * Terms: "A call that is refused (NONE, false) changes nothing." Of two runs that are the same but for one refused
 * call, all later answers must be the same.
 */
public final class TermsRefusedCallsTest {
    private static final Check check = new Check("Terms, refused calls");

    private static final List<Consumer<RedoShelf>> LATER = List.of(
            x -> { },
            TermsRefusedCallsTest::goOn,
            x -> {
                x.crash(-1, 2);
                x.recover();
                x.step(10);
                x.step(10);
            },
            x -> x.crash(5, 3));

    public static void main(String[] args) {
        inANewObject();
        whenAllIsUsed();
        whenThereIsNoRoom();
        whenTheCacheIsFull();
        whenClosed();
        fullChangesNothingEither();
        check.end();
    }

    private static void goOn(RedoShelf x) {
        x.step(10);
        x.step(10);
        x.recover();
        x.step(10);
        x.step(10);
        x.put(5, 1, 55);
        x.revoke(6);
        x.commit();
        x.step(10);
        x.step(10);
        x.direct(7, 2, 77);
        x.checkpoint();
        x.step(10);
        x.step(7);
    }

    private static void changesNothing(String sentence, Consumer<Run> before, Consumer<Run> refused) {
        for (int later = 0; later < LATER.size(); later++) {
            for (int part = 0; part < 3; part++) {
                Run plain = check.run(sentence);
                Run other = check.run(sentence);
                before.accept(plain);
                before.accept(other);
                refused.accept(other);
                LATER.get(later).accept(plain.shelf());
                LATER.get(later).accept(other.shelf());
                dueSame(sentence + ", later " + later, answers(plain.shelf(), part), answers(other.shelf(), part));
            }
        }
    }

    private static void dueSame(String sentence, List<Integer> plain, List<Integer> other) {
        for (int i = 0; i < plain.size(); i++) {
            check.due("'" + sentence + "', answer " + i + " behind a refused call", other.get(i), plain.get(i));
        }
    }

    /** A third of all that can be asked: more would be too many calls for one object. */
    private static List<Integer> answers(RedoShelf x, int part) {
        List<Integer> answers = new ArrayList<>();
        for (int s = 0; s < 41; s++) {
            for (int w = 0; w < 4; w++) {
                if (part == 0) {
                    answers.add(x.stored(s, w));
                } else if (part == 1) {
                    answers.add(x.read(s, w));
                } else if (s < 16) {
                    answers.add(x.get(s, w));
                }
            }
            if (part == 2 && s < 16) {
                answers.add(x.changed(s));
            }
        }
        answers.addAll(List.of(x.cached(), x.state(), x.number(), x.used(), x.left()));
        return answers;
    }

    /** Calls that no state takes. */
    private static List<Consumer<Run>> neverTaken() {
        List<Consumer<Run>> calls = new ArrayList<>();
        for (int b : Run.NO_BLOCK) {
            calls.add(x -> x.put(b, 0, 99, false));
            calls.add(x -> x.revoke(b, false));
            calls.add(x -> x.direct(b, 0, 99, false));
        }
        for (int w : Run.NO_WORD) {
            calls.add(x -> x.put(9, w, 99, false));
            calls.add(x -> x.direct(9, w, 99, false));
        }
        for (int n : new int[] {0, -1, 11, Integer.MIN_VALUE, Integer.MAX_VALUE}) {
            calls.add(x -> x.step(n, Run.NONE));
        }
        return calls;
    }

    private static void eachChangesNothing(String sentence, Consumer<Run> before, List<Consumer<Run>> calls) {
        for (Consumer<Run> refused : neverTaken()) {
            changesNothing(sentence, before, refused);
        }
        for (Consumer<Run> refused : calls) {
            changesNothing(sentence, before, refused);
        }
    }

    private static void inANewObject() {
        eachChangesNothing("refused in a new object", x -> { }, List.of(
                x -> x.commit(Run.NONE),
                x -> x.recover(Run.NONE),
                x -> x.step(1, Run.NONE)));
    }

    private static void whenAllIsUsed() {
        Consumer<Run> before = x -> {
            x.put(1, 0, 10, true);
            x.put(9, 0, 90, true);
            x.commitWhole(4);
            x.put(2, 0, 20, true);
            x.revoke(4, true);
            x.revoke(9, true);
            x.direct(3, 0, 30, true);
        };
        eachChangesNothing("refused beside running, pending and cached ones", before, List.of(
                x -> x.recover(Run.NONE),
                x -> x.step(1, Run.NONE),
                x -> x.direct(1, 0, 99, false),
                x -> x.direct(2, 0, 99, false),
                x -> x.direct(9, 0, 99, false)));
    }

    private static void whenThereIsNoRoom() {
        Consumer<Run> before = x -> {
            x.put(8, 0, 80, true);
            x.commitWhole(3);
            x.putAll(0, 8, 0, 1);
            x.revoke(9, true);
        };
        eachChangesNothing("refused beside eight images", before, List.of(
                x -> x.put(8, 0, 99, false),
                x -> x.put(9, 0, 99, false),
                x -> x.put(15, 3, 99, false)));
    }

    private static void whenTheCacheIsFull() {
        Consumer<Run> before = x -> {
            for (int i = 0; i < 12; i++) {
                x.direct(i % 5, 0, i, true);
            }
        };
        eachChangesNothing("refused beside twelve entries", before, List.of(
                x -> x.direct(0, 0, 99, false),
                x -> x.direct(9, 0, 99, false),
                x -> x.commit(Run.NONE)));
    }

    private static void whenClosed() {
        for (Closed closed : Closed.values()) {
            for (int actions = 0; actions <= Closed.MOST_ACTIONS; actions++) {
                int done = actions;
                List<Consumer<Run>> calls = new ArrayList<>(List.of(
                        x -> x.put(0, 0, 99, false),
                        x -> x.put(2, 1, 99, false),
                        x -> x.revoke(0, false),
                        x -> x.revoke(1, false),
                        x -> x.revoke(2, false),
                        x -> x.direct(0, 0, 99, false),
                        x -> x.direct(3, 0, 99, false),
                        x -> x.commit(Run.NONE),
                        x -> x.checkpoint(Run.NONE)));
                calls.add(closed == Closed.DOWN ? x -> x.step(1, Run.NONE) : x -> x.recover(Run.NONE));
                eachChangesNothing("refused while " + closed + " " + done, x -> closed.reach(x, done), calls);
            }
        }
    }

    /** The document says it of NONE and false alone; FULL begins no COMMIT, so nothing is left that it could change. */
    private static void fullChangesNothingEither() {
        Consumer<Run> before = x -> {
            x.putAll(0, 8, 0, 1);
            x.revoke(8, true);
            x.commitWhole(12);
            x.putAll(0, 8, 0, 2);
            x.commitWhole(11);
            x.direct(9, 0, 1, true);
            x.put(10, 0, 1, true);
            x.revoke(0, true);
        };
        changesNothing("FULL", before, x -> x.commit(Run.FULL));
    }
}
