/** The states in which the volume takes no change. */
enum Closed {
    DOWN, COMMIT, CHECKPOINT, RECOVERY;

    /** Every job that {@link #reach} begins has more actions than these. */
    static final int MOST_ACTIONS = 3;

    /**
     * From a new object on: block 1 has been committed, block 2 has a running image, block 3 was written past the
     * log; then the volume goes down, or the job begins and does so many actions.
     */
    void reach(Run x, int actions) {
        x.put(1, 0, 10, true);
        x.commitWhole(3);
        x.put(2, 0, 20, true);
        x.direct(3, 0, 30, true);
        switch (this) {
            case DOWN -> x.crash(0, 4, 1);
            case COMMIT -> x.commit(3);
            case CHECKPOINT -> x.checkpoint(1);
            default -> {
                x.crash(0, 4, 1);
                x.recover(1);
            }
        }
        if (this != DOWN && actions > 0) {
            x.step(actions, actions);
        }
        x.state(state());
    }

    boolean isDown() {
        return this == DOWN || this == RECOVERY;
    }

    int state() {
        return switch (this) {
            case DOWN -> Run.DOWN;
            case COMMIT -> Run.COMMIT;
            case CHECKPOINT -> Run.CHECKPOINT;
            default -> Run.RECOVERY;
        };
    }
}
