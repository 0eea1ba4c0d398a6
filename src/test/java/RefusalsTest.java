import java.util.ArrayList;
import java.util.Arrays;
import java.util.List;

/**
 * Every call with every combination of arguments at their boundaries, in states of every phase, compared with the model:
 * the answer or the exception, and the digest behind it. All refused calls of a state are made on one object, which
 * must then answer like a twin on which none of them was made.
 */
public final class RefusalsTest {
    private static final int LEAST = Integer.MIN_VALUE;
    private static final int GREATEST = Integer.MAX_VALUE;

    private static final String PLAN = "begin(3); addConstraint(3, 3, 2); addConstraint(2, 0, 1); vote(0, 0, 1); vote(0, 1, 1);"
            + "vote(1, 4, 1); addEvent(3, 0); addEvent(1, -1); addHold(2, 3); addPoint(3); addPoint(1); addSpan(0, 50, false);"
            + "addSpan(9, 12, true); setLimits(5, 2); save(1); append(115);";
    private static final String FULL = "begin(3);" + "addEvent(1, -1);".repeat(12)
            + "addHold(0, 1); addHold(1, 2); addHold(2, 3); addHold(3, 4);" + "addPoint(2);".repeat(4)
            + "addConstraint(3, 0, 1);".repeat(6) + "addSpan(5, 9, false);".repeat(4) + "addSpan(7, 7, true);".repeat(6)
            + "append(115);".repeat(60) + "save(0); save(1); save(2);";
    private static final String[] STATES = {
        "",
        PLAN,
        FULL,
        PLAN + "command(0)",
        FULL + "command(0)",
        PLAN + "command(0); advance(2)",
        PLAN + "command(0); advance(6); command(1); advance(2)",
        PLAN + "command(0); command(1); recycle(0); recycle(0)",
        PLAN + "command(0); vote(0, 0, 2); advance(2)",
        PLAN + "command(0); advance(2); command(3)",
        PLAN + "command(0); command(1); advance(6)",
        PLAN + "command(0); advance(9)",
        PLAN + "advance(600);".repeat(166),
        PLAN + "advance(600);".repeat(166) + "advance(399); command(0)",
        PLAN + "advance(600);".repeat(165) + "advance(399); command(0); command(1)",
        PLAN + "advance(600);".repeat(165) + "advance(400); command(0); command(1)",
    };

    private static final int[] COUNTS = {LEAST, -1, 0, 1, 2, 3, 4, 60, 61, GREATEST};
    private static final int[] CONSTRAINTS = {LEAST, -2, -1, 0, 1, 2, 5, 6, GREATEST};
    private static final int[] SECONDS = {LEAST, -1, 0, 1, 4, 399, 400, 599, 600, 601, GREATEST};
    private static final int[] SPANS = {LEAST, -1, 0, 1, 99998, 99999, 100000, GREATEST};
    private static final int[] WHATS = {LEAST, -1, 0, 1, 2, 3, 4, 5, 6, 7, 8, 9, 10, 11, 12, GREATEST};
    private static final int[] SLOTS = {LEAST, -1, 0, 1, 2, 3, 32, 33, GREATEST};
    private static final int[] BOTH = {0, 1};

    public static void main(String[] args) {
        for (String state : STATES) {
            new RefusalsTest(state).go();
        }
        Runs.end();
    }

    private final String state;
    private final LaunchCountdown refusing;
    private Model model;

    private RefusalsTest(String state) {
        this.state = state;
        refusing = new LaunchCountdown();
        set(refusing);
    }

    private void go() {
        each("begin", new int[] {LEAST, -1, 0, 1, 3, 3600, 3601, GREATEST});
        each("addEvent", COUNTS, CONSTRAINTS);
        each("addHold", COUNTS, new int[] {LEAST, -1, 0, 1, 999, 1000, GREATEST});
        each("addPoint", COUNTS);
        each("addConstraint", COUNTS, COUNTS, new int[] {LEAST, -1, 0, 1, 5, 6, GREATEST});
        each("addSpan", SPANS, SPANS, BOTH);
        each("setLimits", new int[] {LEAST, -1, 0, 9999, 10000, GREATEST}, new int[] {LEAST, -1, 0, 9, 10, GREATEST});
        each("vote", CONSTRAINTS, new int[] {LEAST, -1, 0, 4, 5, GREATEST}, new int[] {LEAST, -1, 0, 1, 2, 3, GREATEST});
        each("command", new int[] {LEAST, -1, 0, 1, 2, 3, 4, GREATEST});
        each("recycle", new int[] {LEAST, -1, 0, 1, 2, 3, 4, GREATEST});
        each("advance", SECONDS);
        each("run");
        each("save", SLOTS);
        each("restore", SLOTS);
        each("append", new int[] {LEAST, -1, 0, 32, 33, 115, 126, 127, 256, 65651, GREATEST});
        each("clearBuffer");
        each("firstError");
        each("script");
        each("status", WHATS);
        each("items", WHATS);
        each("constraint", CONSTRAINTS, WHATS);
        each("expected", new int[] {LEAST, -1, 0, 1, 2, 11, 12, GREATEST});
        each("liftoff");
        each("slack", BOTH);
        each("isOpen", SPANS);
        each("ifRecycled", new int[] {LEAST, -1, 0, 1, 2, 3, 4, GREATEST});
        each("bestPoint");
        each("ifAdvanced", SECONDS, WHATS);
        each("log", new int[] {LEAST, -1, 0, 1, 2, 3, 23, 24, GREATEST}, WHATS);
        each("holdShare");
        each("digest");
        LaunchCountdown twin = new LaunchCountdown();
        set(twin);
        Twins.compare("behind all refused calls of " + shortened(), refusing, twin);
    }

    private void set(Object x) {
        for (String call : state.split(";")) {
            int open = call.indexOf('(');
            if (open >= 0) {
                Runs.answer(x, call.substring(0, open).trim(), Runs.arguments(call.substring(open + 1, call.indexOf(')'))));
            }
        }
    }

    private String shortened() {
        return state.length() <= 60 ? state : ".. " + state.substring(state.length() - 60);
    }

    private void each(String name, int[]... edges) {
        List<Object[]> lists = new ArrayList<>();
        lists.add(new Object[edges.length]);
        for (int i = 0; i < edges.length; i++) {
            List<Object[]> longer = new ArrayList<>();
            for (Object[] list : lists) {
                for (int value : edges[i]) {
                    Object[] copy = list.clone();
                    copy[i] = edges[i] == BOTH ? (Object) (value == 1) : (Object) value;
                    longer.add(copy);
                }
            }
            lists = longer;
        }
        for (Object[] arguments : lists) {
            compare(name, arguments);
        }
    }

    /** A call that the model carries out is made on new objects, so that the state is the same for each call. */
    private void compare(String name, Object[] arguments) {
        if (model == null) {
            model = new Model();
            set(model);
        }
        String title = name + Arrays.toString(arguments) + " behind " + shortened();
        String want = Runs.answer(model, name, arguments);
        LaunchCountdown program = refusing;
        if (!want.startsWith("throws")) {
            program = new LaunchCountdown();
            set(program);
        }
        Runs.due(title, Runs.answer(program, name, arguments), want);
        Runs.due(title + ", the digest", program.digest(), model.digest());
        if (program != refusing) {
            model = null;
        }
    }
}
