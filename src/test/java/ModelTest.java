import java.util.Arrays;
import java.util.Random;

/** Random runs of 512 calls, with right and wrong arguments, on the program and on the model. */
public final class ModelTest {
    private static final int RUNS = 200;
    private static final int CALLS = 512;
    private static final int[] WILD = {Integer.MIN_VALUE, -2, -1, 0, 1, 5, 12, 600, 601, 3601, 10000, 99999, 100000,
        Integer.MAX_VALUE};
    private static final int[] OFTEN_RESUME = {0, 1, 2, 2, 2, 2};
    private static final String[] PLANS = {"addEvent", "addEvent", "addHold", "addPoint", "addConstraint", "addSpan",
        "setLimits", "save"};
    private static final String[] COMMANDS = {"command", "command", "command", "recycle", "advance", "advance", "run",
        "run", "vote", "vote", "vote", "save", "restore", "addSpan", "setLimits", "text"};
    private static final String[] QUESTIONS = {"append", "clearBuffer", "firstError", "status", "items", "constraint",
        "expected", "liftoff", "slack", "isOpen", "ifRecycled", "bestPoint", "ifAdvanced", "ifAdvanced", "log",
        "holdShare", "addEvent", "addHold", "addPoint", "addConstraint"};
    private static final String[] SCRIPTS = {"s", "h", "r", "c0", "r", "c1", "+1", "+2", "+3", "+12", "v001", "v011",
        "v021", "v101", "v111", "v211", "v002", "x", "+600", "c9", "v053", "+601", "v", "+", "c", "+0", ";", "7", "rr"};

    private final Random random;
    private final LaunchCountdown program = new LaunchCountdown();
    private final Model model = new Model();
    private final StringBuilder past = new StringBuilder();
    private int length = 60;

    private ModelTest(int seed) {
        random = new Random(seed);
    }

    public static void main(String[] args) {
        for (int seed = 0; seed < RUNS; seed++) {
            new ModelTest(seed).go();
        }
        Runs.end();
    }

    private void go() {
        int plans = 0;
        for (int i = 0; i < CALLS; i++) {
            boolean ended = program.status(0) > 3 && random.nextInt(8) == 0;
            if (i == 0 || ended || random.nextInt(150) == 0) {
                plans = i + 5 + random.nextInt(25);
                beginAnew();
            }
            if (i == plans) {
                same("command", 0);
            }
            boolean right = i < plans
                    ? call(pick(PLANS))
                    : random.nextInt(3) == 0 ? call(pick(QUESTIONS)) : call(pick(COMMANDS));
            if (!right) {
                System.out.println("the run: " + past);
                return;
            }
        }
    }

    private void beginAnew() {
        length = 1 + random.nextInt(random.nextInt(8) == 0 ? 900 : 30);
        sameCall("begin", length);
        // Some countdowns begin near the end of the clock, where calls are refused.
        int far = random.nextInt(40) == 0 ? 166 : 0;
        for (int i = 0; i < far; i++) {
            sameCall("advance", 600);
        }
    }

    private boolean call(String name) {
        switch (name) {
            case "addEvent":
                return same(name, count(), random.nextInt(1 + program.items(3)) - 1);
            case "addHold":
                return same(name, count(), 1 + random.nextInt(6));
            case "addPoint":
                return same(name, count());
            case "addConstraint":
                int from = count();
                return same(name, from, from - random.nextInt(5), 1 + random.nextInt(2));
            case "addSpan":
                int first = random.nextInt(random.nextInt(9) == 0 ? 2000 : 150);
                int width = random.nextInt(20);
                boolean cutout = random.nextBoolean();
                return same(name, first, first + (cutout ? width : width * width), cutout);
            case "setLimits":
                return same(name, random.nextInt(6) == 0 ? random.nextInt(12) : 40 + random.nextInt(900), random.nextInt(10));
            case "vote":
                return same(name, random.nextInt(1 + program.items(3)), random.nextInt(5), random.nextInt(3) == 0 ? random.nextInt(3) : 1);
            case "command":
                return same(name, random.nextInt(40) == 0 ? 3 : OFTEN_RESUME[random.nextInt(OFTEN_RESUME.length)]);
            case "recycle", "ifRecycled":
                return same(name, random.nextInt(1 + program.items(2)));
            case "advance":
                return same(name, 1 + random.nextInt(random.nextInt(30) == 0 ? 600 : 8));
            case "save", "restore":
                return same(name, random.nextInt(3));
            case "text":
                return text();
            case "append":
                return same(name, 33 + random.nextInt(94));
            case "status":
                return same(name, random.nextInt(12));
            case "items":
                return same(name, random.nextInt(6));
            case "constraint":
                return same(name, random.nextInt(1 + program.items(3)), random.nextInt(4));
            case "expected":
                return same(name, random.nextInt(1 + program.items(0)));
            case "slack":
                return same(name, random.nextBoolean());
            case "isOpen":
                return same(name, random.nextInt(random.nextInt(9) == 0 ? 100000 : 300));
            case "ifAdvanced":
                return same(name, 1 + random.nextInt(random.nextInt(5) == 0 ? 600 : 30), random.nextInt(12));
            case "log":
                return same(name, random.nextInt(1 + program.status(7)), random.nextInt(3));
            default:
                return same(name);
        }
    }

    private int count() {
        return random.nextInt(length + 1);
    }

    private String pick(String[] list) {
        return list[random.nextInt(list.length)];
    }

    private boolean text() {
        boolean right = random.nextInt(9) == 0 || same("clearBuffer");
        int commands = 1 + random.nextInt(7);
        StringBuilder script = new StringBuilder();
        for (int i = 0; i < commands; i++) {
            int likely = random.nextInt(15) == 0 ? SCRIPTS.length : 17;
            script.append(i == 0 ? "" : ";").append(SCRIPTS[random.nextInt(likely)]);
        }
        for (char code : script.toString().toCharArray()) {
            right = right && sameCall("append", (int) code);
        }
        right = right && sameCall("firstError");
        return right && (random.nextInt(4) == 0 || same("script"));
    }

    /** Now and then an argument is put out of its range. */
    private boolean same(String name, Object... arguments) {
        for (int i = 0; i < arguments.length; i++) {
            if (arguments[i] instanceof Integer && !name.equals("begin") && random.nextInt(60) == 0) {
                arguments[i] = WILD[random.nextInt(WILD.length)];
            }
        }
        return sameCall(name, arguments);
    }

    private boolean sameCall(String name, Object... arguments) {
        past.append(name).append(Arrays.toString(arguments)).append(' ');
        String want = Runs.answer(model, name, arguments);
        String got = Runs.answer(program, name, arguments);
        Runs.due("ModelTest " + name, got, want);
        long wantDigest = model.digest();
        long gotDigest = program.digest();
        Runs.due("ModelTest digest behind " + name, gotDigest, wantDigest);
        return got.equals(want) && gotDigest == wantDigest;
    }
}
