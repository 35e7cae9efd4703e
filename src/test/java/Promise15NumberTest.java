/** Promise 15, number. */
public final class Promise15NumberTest {
    private static final Check check = new Check("Promise 15");

    public static void main(String[] args) {
        goesOnByOne();
        noneWhenDown();
        afterRecovery();
        check.end();
    }

    private static void goesOnByOne() {
        Run x = check.run("The number of the next transaction");
        x.number(1);
        for (int number = 1; number <= 30; number++) {
            x.revoke(0, true);
            x.commit(2);
            x.step(3, 3);
            x.number(number);
            x.step(1, 1);
            x.number(number + 1);
            if (number % 11 == 0) {
                x.checkpointWhole(0);
                x.number(number + 1);
            }
        }
        x.commit(Run.NONE);
        x.number(31);
    }

    private static void noneWhenDown() {
        for (Closed closed : Closed.values()) {
            for (int actions = 0; actions <= Closed.MOST_ACTIONS; actions++) {
                Run x = check.run("number: NONE when the volume is down: " + closed + " " + actions);
                closed.reach(x, actions);
                x.number(closed.isDown() ? Run.NONE : 2);
            }
        }
    }

    private static void afterRecovery() {
        Run x = check.run("the number behind that of the last valid transaction");
        x.commitRevocation();
        x.commitRevocation();
        x.revoke(0, true);
        x.commit(2);
        x.stepUntil(1);
        x.crash(0, 4, 1);
        x.number(Run.NONE);
        x.recoverWhole(0);
        x.number(3);
    }
}
