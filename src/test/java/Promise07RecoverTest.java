/** Promise 7, recover, and RECOVERY of the terms, for logs that commits have written. */
public final class Promise07RecoverTest {
    private static final Check check = new Check("Promise 7");

    public static void main(String[] args) {
        actionsOneByOne();
        emptyLog();
        emptyLogBehindACheckpoint();
        transactionsOneAfterTheOther();
        smallestTransactions();
        fullLog();
        placeAfter23Is0();
        logThatEndsWithPlace23();
        olderTransactionsBehindTheLast();
        firstWordThatIsTheMark();
        revokedLater();
        revokedEarlier();
        revokedBeforeTheHead();
        everyBlockRevoked();
        rowLostInPart();
        endingTorn();
        endingWhole();
        headTorn();
        damagedHead();
        crashedAsOftenAsItLikes();
        crashedWithEveryMask();
        upWhenTheLastActionIsDone();
        noneWhenUp();
        noneWhenAJobRuns();
        check.end();
    }

    private static void actionsOneByOne() {
        Run x = check.run("each of them is written to its block; flush; the head is written; flush");
        x.put(4, 0, 1, true);
        x.commitWhole(3);
        x.put(4, 1, 2, true);
        x.put(5, 0, 3, true);
        x.commitWhole(4);
        x.crash(0, 4, 0);
        x.recover(3);
        x.state(Run.RECOVERY);
        x.left(6);
        x.cached(0);
        x.step(1, 1);
        x.reads(4, 1, 0, 0, 0);
        x.step(1, 1);
        x.reads(4, 1, 2, 0, 0);
        x.reads(5, 0, 0, 0, 0);
        x.step(1, 1);
        x.reads(5, 3, 0, 0, 0);
        x.cached(3);
        x.stores(4, 0, 0, 0, 0);
        x.step(1, 1);
        x.cached(0);
        x.stores(4, 1, 2, 0, 0);
        x.stores(5, 3, 0, 0, 0);
        x.reads(Run.HEAD, Run.MARK, 1, 0, 0);
        x.step(1, 1);
        x.reads(Run.HEAD, Run.MARK, 3, 7, 0);
        x.storesHead(1, 0);
        x.step(1, 1);
        x.storesHead(3, 7);
        x.state(Run.UP);
    }

    private static void emptyLog() {
        Run x = check.run("the number and place where the reading began, if none is valid: at 0");
        x.crash(0, 4, 0);
        x.recover(0);
        x.left(3);
        x.finish();
        x.storesHead(1, 0);
        x.number(1);
        x.used(0);
    }

    private static void emptyLogBehindACheckpoint() {
        for (int place : new int[] {1, 12, 22, 23}) {
            Run x = check.run("the number and place where the reading began, if none is valid: at " + place);
            x.moveTo(place);
            int number = x.numberNow();
            x.crash(0, 4, 0);
            x.recoverWhole(0);
            x.storesHead(number, place);
            x.number(number);
            x.commitRevocation();
            x.stores(Run.log(place), Run.MARK, 2, number, 0x8000);
        }
    }

    private static void transactionsOneAfterTheOther() {
        Run x = check.run("Behind a valid transaction q the reading goes on with q + 1");
        for (int b = 0; b < 7; b++) {
            x.put(b, 0, b + 1, true);
            x.commitWhole(3);
        }
        x.crash(0, 4, 0);
        x.recoverWhole(7);
        for (int b = 0; b < 7; b++) {
            x.get(b, 0, b + 1);
        }
        x.storesHead(8, 21);
    }

    private static void smallestTransactions() {
        Run x = check.run("any number of groups, also none: revocations alone");
        for (int i = 0; i < 11; i++) {
            x.commitRevocation();
        }
        x.crash(0, 4, 0);
        x.recover(0);
        x.left(3);
        x.finish();
        x.storesHead(12, 22);
        x.number(12);
    }

    private static void fullLog() {
        Run x = check.run("all among the 24 sectors from where the reading began: 23, as many as can be used");
        x.putAll(0, 8, 0, 1);
        x.revoke(15, true);
        x.commitWhole(12);
        x.putAll(8, 8, 0, 2);
        x.commitWhole(11);
        x.used(23);
        x.crash(0, 4, 0);
        x.recover(16);
        x.left(19);
        x.finish();
        x.get(7, 0, 1);
        x.get(15, 0, 2);
        x.storesHead(3, 23);
        x.used(0);
        x.put(0, 0, 3, true);
        x.commitWhole(3);
        x.crash(0, 4, 0);
        x.recoverWhole(1);
        x.storesHead(4, 2);
        x.get(0, 0, 3);
    }

    private static void placeAfter23Is0() {
        for (int place = 0; place < 24; place++) {
            Run x = check.run("without a gap (23 is followed by 0): from " + place);
            x.moveTo(place);
            int number = x.numberNow();
            for (int b = 0; b < 8; b++) {
                x.put(b, 3, b + 1, true);
            }
            x.revoke(8, true);
            x.commitWhole(12);
            x.put(9, 0, 9, true);
            x.commitWhole(3);
            x.crash(0, 4, 0);
            x.recoverWhole(9);
            for (int b = 0; b < 8; b++) {
                x.stores(b, 0, 0, 0, b + 1);
            }
            x.get(9, 0, 9);
            x.storesHead(number + 2, (place + 15) % 24);
        }
    }

    private static void logThatEndsWithPlace23() {
        Run x = check.run("the place behind it: 0 behind 23");
        x.moveTo(21);
        int number = x.numberNow();
        x.put(0, 0, 1, true);
        x.commitWhole(3);
        x.crash(0, 4, 0);
        x.recoverWhole(1);
        x.storesHead(number + 1, 0);
        x.commitRevocation();
        x.stores(Run.log(0), Run.MARK, 2, number + 1, 0x8000);
    }

    private static void olderTransactionsBehindTheLast() {
        Run x = check.run("it ends where none is valid: older transactions stand behind the last");
        for (int b = 0; b < 7; b++) {
            x.put(b, 0, 1, true);
            x.commitWhole(3);
        }
        x.checkpointWhole(7);
        x.put(10, 0, 2, true);
        x.commitWhole(3);
        x.put(11, 0, 3, true);
        x.commitWhole(3);
        x.crash(0, 4, 0);
        x.recoverWhole(2);
        x.storesHead(10, 3);
    }

    private static void firstWordThatIsTheMark() {
        Run x = check.run("a first word is 77001 when the bit worth 2^(7 + 5 * j) in I is 1");
        x.putAll(0, 8, 0, Run.MARK);
        x.put(1, 0, 0, true);
        x.put(6, 0, Run.MARK + 1, true);
        x.commitWhole(11);
        x.crash(0, 4, 0);
        x.recoverWhole(8);
        for (int b = 0; b < 8; b++) {
            x.stored(b, 0, b == 1 ? 0 : b == 6 ? Run.MARK + 1 : Run.MARK);
        }
    }

    private static void revokedLater() {
        Run x = check.run("but for those of a block that a valid transaction with a greater number revokes");
        x.put(0, 0, 1, true);
        x.put(7, 0, 2, true);
        x.put(15, 0, 3, true);
        x.commitWhole(5);
        x.put(15, 1, 4, true);
        x.commitWhole(3);
        x.revoke(0, true);
        x.revoke(15, true);
        x.commitWhole(2);
        x.crash(0, 4, 0);
        x.recover(1);
        x.left(4);
        x.finish();
        x.get(0, 0, 0);
        x.get(7, 0, 2);
        x.get(15, 0, 0);
        x.number(4);
    }

    private static void revokedEarlier() {
        Run x = check.run("with a greater number: an image behind the revocation is replayed");
        x.put(1, 0, 1, true);
        x.commitWhole(3);
        x.revoke(1, true);
        x.commitWhole(2);
        x.put(1, 3, 111, true);
        x.commitWhole(3);
        x.crash(0, 4, 0);
        x.recover(1);
        x.step(1, 1);
        x.reads(1, 0, 0, 0, 111);
        x.finish();
        x.number(4);
    }

    private static void revokedBeforeTheHead() {
        Run x = check.run("a valid transaction: one before the head revokes nothing");
        x.put(1, 0, 4, true);
        x.commitWhole(3);
        x.commitRevocation();
        x.revoke(1, true);
        x.commitWhole(2);
        x.crash(0, 4, 0);
        x.recoverWhole(0);
        x.put(1, 0, 5, true);
        x.put(15, 0, 6, true);
        x.commitWhole(4);
        x.crash(0, 4, 0);
        x.recoverWhole(2);
        x.get(1, 0, 5);
        x.get(15, 0, 6);
    }

    private static void everyBlockRevoked() {
        Run x = check.run("The images to replay: none, when every block is revoked");
        x.putAll(0, 8, 0, 1);
        x.commitWhole(11);
        x.putAll(8, 8, 0, 1);
        x.revokeAll(0, 8);
        x.commitWhole(12);
        x.crash(0, 4, 0);
        x.recoverWhole(8);
        x.get(0, 0, 0);
        x.get(8, 0, 1);
        x.revokeAll(0, 16);
        x.commitWhole(2);
        x.crash(0, 4, 0);
        x.recoverWhole(0);
        x.number(4);
        x.get(8, 0, 1);
    }

    private static void rowLostInPart() {
        for (int done = 0; done <= 4; done++) {
            for (int mask : new int[] {0, 1, 2, 3, -1}) {
                Run x = check.run("a row behind " + done + " actions is not valid, mask " + mask);
                x.put(1, 3, 1, true);
                x.commit(3);
                if (done > 0) {
                    x.step(done, done);
                }
                int entries = new int[] {0, 1, 2, 0, 1}[done];
                int kept = Integer.bitCount(mask & ((1 << entries) - 1));
                boolean valid = done == 4 && kept == 1;
                x.crash(mask, 4, entries - kept);
                x.recoverWhole(valid ? 1 : 0);
                x.get(1, 3, valid ? 1 : 0);
                x.number(valid ? 2 : 1);
                x.storesHead(valid ? 2 : 1, valid ? 3 : 0);
            }
        }
    }

    private static void endingTorn() {
        for (int whole = 0; whole < 4; whole++) {
            Run x = check.run("a sector 77001, 3, q, S: torn at " + whole);
            x.put(1, 3, 1, true);
            x.commit(3);
            x.step(4, 4);
            x.crash(1, whole, 0);
            x.recoverWhole(0);
            x.get(1, 3, 0);
            x.number(1);
            x.storesHead(1, 0);
        }
    }

    private static void endingWhole() {
        for (int whole : new int[] {4, -1, Integer.MAX_VALUE, Integer.MIN_VALUE}) {
            Run x = check.run("a sector 77001, 3, q, S: kept whole, by " + whole);
            x.put(1, 3, 1, true);
            x.commit(3);
            x.step(4, 4);
            x.crash(1, whole, 0);
            x.recoverWhole(1);
            x.get(1, 3, 1);
            x.number(2);
        }
    }

    private static void headTorn() {
        Run x = check.run("from the place that is the head's third word on, with q being its second word");
        x.put(1, 0, 1, true);
        x.commitWhole(3);
        x.crash(0, 4, 0);
        x.recoverTearingHead(1);
        x.storesHead(2, 0);
        x.recoverWhole(0);
        x.number(2);
        x.get(1, 0, 1);
        x.revoke(3, true);
        x.commitWhole(2);
        x.stores(Run.log(0), Run.MARK, 2, 2, 1 << 3);
        x.crash(0, 4, 0);
        x.recoverWhole(0);
        x.storesHead(3, 2);
    }

    private static void damagedHead() {
        check.unreachable("A head whose first word is not 77001, or whose third word is not 0 .. 23",
                "checkpoint and recovery alone write sector 16, always with 77001 first and a place 0 .. 23 third,"
                + " and a torn write leaves older words of the same kind in their places; direct writes to blocks,"
                + " commit to the log");
    }

    private static void crashedAsOftenAsItLikes() {
        Run x = check.run("the replay itself may crash as often as it likes");
        x.put(1, 0, 1, true);
        x.put(2, 3, 2, true);
        x.commitWhole(4);
        x.crash(0, 4, 0);
        for (int round = 0; round < 3; round++) {
            for (int actions = 0; actions < 5; actions++) {
                x.recover(2);
                if (actions > 0) {
                    x.step(actions, actions);
                }
                x.crash(0, 4, new int[] {0, 1, 2, 0, 1}[actions]);
                x.state(Run.DOWN);
                x.storesHead(1, 0);
            }
        }
        x.recoverWhole(2);
        x.get(1, 0, 1);
        x.get(2, 3, 2);
        x.storesHead(2, 4);
        x.crash(-1, 0, 0);
        x.recoverWhole(0);
        x.storesHead(2, 4);
    }

    private static void crashedWithEveryMask() {
        for (int mask = 0; mask < 4; mask++) {
            for (int whole = 0; whole <= 4; whole++) {
                Run x = check.run("a replay that crashes with mask " + mask + " and whole " + whole);
                x.put(1, 0, 1, true);
                x.put(1, 3, 4, true);
                x.put(2, 2, 3, true);
                x.commitWhole(4);
                x.crash(0, 4, 0);
                x.recover(2);
                x.step(2, 2);
                x.crash(mask, whole, 2 - Integer.bitCount(mask));
                x.recoverWhole(2);
                x.gets(1, 1, 0, 0, 4);
                x.gets(2, 0, 0, 3, 0);
                x.storesHead(2, 4);
            }
        }
    }

    private static void upWhenTheLastActionIsDone() {
        Run x = check.run("When the last action is done, the volume is UP, .. USED 0, nothing pending, nothing running");
        x.put(4, 0, 1, true);
        x.commitWhole(3);
        x.put(5, 0, 1, true);
        x.revoke(6, true);
        x.crash(0, 4, 0);
        x.recover(1);
        x.stepUntil(1);
        x.state(Run.RECOVERY);
        x.number(Run.NONE);
        x.used(Run.NONE);
        x.changed(4, Run.NONE);
        x.get(4, 0, 0);
        x.step(1, 1);
        x.state(Run.UP);
        x.number(2);
        x.used(0);
        x.changed(4, 0);
        x.changed(5, 0);
        x.changed(6, 0);
        x.get(4, 0, 1);
        x.get(5, 0, 0);
        x.commit(Run.NONE);
        x.putAll(0, 8, 0, 1);
        x.revoke(15, true);
        x.commitWhole(12);
        x.putAll(0, 8, 0, 1);
        x.commitWhole(11);
        x.used(23);
    }

    private static void noneWhenUp() {
        Run x = check.run("recover: NONE when the volume is not down");
        x.recover(Run.NONE);
        x.state(Run.UP);
        x.put(1, 0, 1, true);
        x.recover(Run.NONE);
        x.changed(1, 1);
        x.commitWhole(3);
        x.recover(Run.NONE);
        x.crash(0, 4, 0);
        x.recoverWhole(1);
        x.recover(Run.NONE);
        x.state(Run.UP);
    }

    private static void noneWhenAJobRuns() {
        for (Closed closed : Closed.values()) {
            for (int actions = 0; closed != Closed.DOWN && actions <= Closed.MOST_ACTIONS; actions++) {
                Run x = check.run("recover: NONE when a job runs: " + closed + " " + actions);
                closed.reach(x, actions);
                x.recover(Run.NONE);
                x.state(closed.state());
            }
        }
    }
}
