/**
 * Compares two objects by their answers, also in what no single call tells: who voted, the limits, the spans, the
 * durations and quorums, the saved states. Both objects are used up by it.
 */
final class Twins {
    private static final int SLOTS = 3;
    private static final int CONSTRAINTS = 6;
    private static final int VOTERS = 5;
    private static final int POINTS = 4;
    private static final int EVENTS = 12;
    private static final int TRIES = 10;
    private static final int[] SECONDS = {0, 1, 2, 3, 4, 5, 6, 9, 10, 11, 40, 59, 60, 61, 90, 99, 100, 101, 99998, 99999};

    private final String title;
    private final Object x;
    private final Object twin;

    private Twins(String title, Object x, Object twin) {
        this.title = title;
        this.x = x;
        this.twin = twin;
    }

    static void compare(String title, Object x, Object twin) {
        Twins twins = new Twins(title, x, twin);
        twins.compareState();
        for (int slot = 0; slot < SLOTS; slot++) {
            if (!twins.same("restore", slot).startsWith("throws")) {
                twins.compareState();
            }
        }
    }

    private String same(String name, Object... arguments) {
        String want = Runs.answer(twin, name, arguments);
        String got = Runs.answer(x, name, arguments);
        Runs.due(title + ", behind the run: " + name, got, want);
        return got;
    }

    private void compareState() {
        same("digest");
        same("holdShare");
        same("firstError");
        for (int second : SECONDS) {
            same("isOpen", second);
        }
        playOn();
        for (int constraint = 0; constraint < CONSTRAINTS; constraint++) {
            for (int voter = 0; voter < VOTERS; voter++) {
                same("vote", constraint, voter, 1);
            }
            same("constraint", constraint, 0);
        }
        playOn();
        // The budget and the greatest number of recycles are seen by what they allow, and the budget by this answer.
        same("setLimits", 0, 9);
        addItems();
        playOn();
        same("clearBuffer");
        same("digest");
    }

    private void addItems() {
        same("addEvent", 0, -1);
        same("addHold", 0, 3);
        same("addPoint", 0);
        same("addConstraint", 0, 0, 1);
        same("addSpan", 0, 99999, false);
        same("addSpan", 0, 0, true);
    }

    private void playOn() {
        for (int event = 0; event < EVENTS; event++) {
            same("expected", event);
        }
        same("command", 0);
        same("advance", 1);
        same("command", 1);
        for (int i = 0; i < TRIES; i++) {
            same("recycle", i % POINTS);
        }
        same("command", 2);
        same("run");
        same("advance", 600);
        same("digest");
    }
}
