/** Promises 1 to 9: each sentence that names a boundary, by a run of its own. */
public final class PlansEdgesTest {
    private static final String LEAST = "-2147483648";
    private static final String GREATEST = "2147483647";

    public static void main(String[] args) {
        newObject();
        begin();
        addEvent();
        addHold();
        addPoint();
        addConstraint();
        addSpan();
        setLimits();
        vote();
        Runs.end();
    }

    /** A run in which LEAST and GREATEST stand for the least and the greatest int. */
    private static void check(String title, String run) {
        Runs.check(title, run.replace("LEAST", LEAST).replace("GREATEST", GREATEST));
    }

    private static void newObject() {
        check("Promise 1: the length 60", "status(8) = 60; status(2) = 60; liftoff() = 60; begin(60) = 60");
        check("Promise 1: an empty buffer", "firstError() = 0; clearBuffer() = 0; append(115) = 1");
        check("Promise 1: as by begin", """
            status(0) = 0; status(1) = 0; status(3) = 0; status(4) = 0; status(7) = 0; setLimits(0, 0) = 600
            restore(0) = throws IllegalStateException; restore(1) = throws IllegalStateException
            restore(2) = throws IllegalStateException; log(0, 0) = throws IndexOutOfBoundsException
            """);
        check("Promise 1: three recycles at first", """
            addPoint(60) = 0; command(0) = 1; command(1) = 3; 3 * recycle(0) = 60; recycle(0) = throws IllegalStateException
            """);
        LaunchCountdown other = new LaunchCountdown();
        other.begin(5);
        other.append('s');
        other.command(0);
        Runs.due("Promise 1: objects share nothing", new LaunchCountdown().status(8), 60);
        Runs.due("Promise 1: not the buffer either", new LaunchCountdown().clearBuffer(), 0);
    }

    private static void begin() {
        check("Promise 2: length 1 to 3600, below", """
            begin(0) = throws IllegalArgumentException; begin(-1) = throws IllegalArgumentException
            begin(LEAST) = throws IllegalArgumentException; begin(1) = 60; status(8) = 1
            """);
        check("Promise 2: length 1 to 3600, above", """
            begin(3601) = throws IllegalArgumentException; begin(GREATEST) = throws IllegalArgumentException
            begin(3600) = 60; status(8) = 3600
            """);
        check("Promise 2: returns the previous length", "begin(1) = 60; begin(3600) = 1; begin(3600) = 3600; begin(7) = 3600");
        check("Promise 2: a refused begin changes nothing", """
            begin(5) = 60; addEvent(5, -1) = 0; addHold(4, 2) = 0; addPoint(5) = 0; addConstraint(0, 0, 1) = 0
            vote(0, 0, 1) = 0; addSpan(0, 9, false) = 0; addSpan(3, 4, true) = 0; setLimits(20, 1) = 600; save(1) = 0
            command(0) = 1; advance(2) = 2; begin(0) = throws IllegalArgumentException
            begin(3601) = throws IllegalArgumentException; status(0) = 2; status(8) = 5; restore(1) = 0; setLimits(1, 1) = 20
            """);
        check("Promise 2: without items", """
            addEvent(1, -1) = 0; addHold(1, 1) = 0; addPoint(1) = 0; addConstraint(1, 1, 1) = 0; addSpan(1, 1, false) = 0
            addSpan(1, 1, true) = 0; begin(60) = 60; items(0) = 0; items(1) = 0; items(2) = 0; items(3) = 0; items(4) = 0
            items(5) = 0; expected(0) = throws IndexOutOfBoundsException; ifRecycled(0) = throws IndexOutOfBoundsException
            constraint(0, 0) = throws IndexOutOfBoundsException; isOpen(1) = false; liftoff() = 60; addHold(1, 1) = 0
            addEvent(1, 0) = throws IndexOutOfBoundsException; addEvent(1, -1) = 0; addPoint(1) = 0
            """);
        check("Promise 2: full lists are empty again", """
            addPoint(1) = 0; addPoint(1) = 1; addPoint(1) = 2; addPoint(1) = 3; addSpan(1, 1, false) = 0
            addSpan(1, 1, false) = 1; addSpan(1, 1, false) = 2; addSpan(1, 1, false) = 3; begin(60) = 60; addPoint(1) = 0
            addSpan(1, 1, false) = 0
            """);
        check("Promise 2: the clock shows 0, also behind the last second", """
            166 * advance(600) = 0; advance(399) = 0; advance(1) = throws IllegalStateException; begin(9) = 60; status(1) = 0
            advance(1) = 0
            """);
        check("Promise 2: the used hold time and the recycles are 0", """
            addPoint(60) = 0; command(0) = 1; command(1) = 3; advance(5) = 3; recycle(0) = 60; begin(60) = 60; status(3) = 0
            status(4) = 0; command(0) = 1; holdShare() = 0.0; command(1) = 3; advance(600) = 3; advance(1) = 4
            """);
        check("Promise 2: no vote, go or no-go, is left for the last constraint either", """
            addConstraint(9, 9, 1) = 0; addConstraint(9, 9, 1) = 1; vote(0, 0, 1) = 0; vote(1, 4, 2) = 0; begin(60) = 60
            addConstraint(9, 9, 1) = 0; addConstraint(9, 9, 1) = 1; constraint(0, 2) = 0; constraint(1, 3) = 0; vote(0, 0, 0) = 0
            vote(1, 4, 0) = 0
            """);
        check("Promise 2: in the midst of a pass", """
            begin(5) = 60; addEvent(5, -1) = 0; addHold(5, 2) = 0; addHold(4, 9) = 1; command(0) = 1; advance(5) = 2; status(9) = 1
            status(10) = 2; begin(5) = 5; status(0) = 0; status(5) = 0; status(9) = 0; status(10) = 0; status(11) = 0
            addEvent(5, -1) = 0; addHold(5, 2) = 0; expected(0) = 2; liftoff() = 7; command(0) = 1; status(11) = 1; advance(1) = 2
            """);
        check("Promise 2: in phase 0, from each phase", """
            begin(2) = 60; addHold(2, 2) = 0; command(0) = 1; begin(2) = 2; status(0) = 0; addHold(2, 2) = 0; command(0) = 1; advance(1) = 2
            begin(2) = 2; status(0) = 0; command(0) = 1; command(1) = 3; begin(2) = 2; status(0) = 0; status(6) = -1; command(3) = 4
            begin(2) = 2; status(0) = 0; addSpan(0, 9, false) = 0; command(0) = 1; advance(3) = 5; begin(2) = 2; status(0) = 0; liftoff() = 2
            """);
        check("Promise 2: the log is empty", """
            command(3) = 4; status(7) = 1; begin(60) = 60; status(7) = 0; log(0, 0) = throws IndexOutOfBoundsException
            """);
        check("Promise 2: the budget is 600, the greatest number of recycles 3", """
            setLimits(0, 0) = 600; begin(60) = 60; addPoint(60) = 0; command(0) = 1; command(1) = 3; 3 * recycle(0) = 60
            recycle(0) = throws IllegalStateException; setLimits(5, 5) = 600
            """);
        check("Promise 2: there are no saved states", """
            save(0) = 0; save(1) = 0; save(2) = 0; begin(60) = 60; restore(0) = throws IllegalStateException
            restore(1) = throws IllegalStateException; restore(2) = throws IllegalStateException; save(1) = 0; restore(1) = 0
            """);
    }

    private static void addEvent() {
        check("Promise 3: count 0 to the length, below", """
            begin(10) = 60; addEvent(-1, -1) = throws IllegalArgumentException
            addEvent(LEAST, -1) = throws IllegalArgumentException; addEvent(0, -1) = 0; expected(0) = 10
            """);
        check("Promise 3: count 0 to the length, above", """
            begin(10) = 60; addEvent(11, -1) = throws IllegalArgumentException; addEvent(60, -1) = throws IllegalArgumentException
            addEvent(GREATEST, -1) = throws IllegalArgumentException; addEvent(10, -1) = 0; expected(0) = 0
            """);
        check("Promise 3: the greatest length", """
            begin(3600) = 60; addEvent(3601, -1) = throws IllegalArgumentException; addEvent(3600, -1) = 0
            """);
        check("Promise 3: neither NONE nor the number of a constraint", """
            addEvent(1, -2) = throws IndexOutOfBoundsException; addEvent(1, LEAST) = throws IndexOutOfBoundsException
            addEvent(1, 0) = throws IndexOutOfBoundsException; addEvent(1, -1) = 0; addConstraint(1, 1, 1) = 0
            addEvent(1, 0) = 1; addEvent(1, 1) = throws IndexOutOfBoundsException
            addEvent(1, GREATEST) = throws IndexOutOfBoundsException; items(0) = 2
            """);
        check("Promise 3: the last of six constraints", """
            addConstraint(1, 1, 1) = 0; addConstraint(1, 1, 1) = 1; addConstraint(1, 1, 1) = 2; addConstraint(1, 1, 1) = 3
            addConstraint(1, 1, 1) = 4; addConstraint(1, 1, 1) = 5; addEvent(60, 5) = 0
            addEvent(60, 6) = throws IndexOutOfBoundsException; command(0) = 1; advance(1) = 3; status(6) = 5
            """);
        String twelve = """
            addEvent(1, -1) = 0; addEvent(1, -1) = 1; addEvent(1, -1) = 2; addEvent(1, -1) = 3; addEvent(1, -1) = 4
            addEvent(1, -1) = 5; addEvent(1, -1) = 6; addEvent(1, -1) = 7; addEvent(1, -1) = 8; addEvent(1, -1) = 9
            addEvent(1, -1) = 10; addEvent(1, -1) = 11
            """;
        check("Promise 3: there are 12 events", twelve + "addEvent(1, -1) = throws IllegalStateException; items(0) = 12");
        check("Promise 3: the order of the exceptions", twelve + """
            addEvent(61, 0) = throws IllegalArgumentException; addEvent(61, -1) = throws IllegalArgumentException
            addEvent(60, 0) = throws IndexOutOfBoundsException; addEvent(60, -1) = throws IllegalStateException
            """);
        check("Promise 3: the order of the exceptions behind the start", """
            command(0) = 1; addEvent(61, 0) = throws IllegalArgumentException; addEvent(60, 0) = throws IndexOutOfBoundsException
            addEvent(60, -1) = throws IllegalStateException
            """);
    }

    private static void addHold() {
        check("Promise 4: count 0 to the length, below", """
            begin(10) = 60; addHold(-1, 1) = throws IllegalArgumentException; addHold(LEAST, 1) = throws IllegalArgumentException
            addHold(0, 1) = 0; liftoff() = 11
            """);
        check("Promise 4: count 0 to the length, above", """
            begin(10) = 60; addHold(11, 1) = throws IllegalArgumentException; addHold(GREATEST, 1) = throws IllegalArgumentException
            addHold(10, 1) = 0; liftoff() = 11
            """);
        check("Promise 4: duration 1 to 999, below", """
            addHold(5, 0) = throws IllegalArgumentException; addHold(5, -1) = throws IllegalArgumentException
            addHold(5, LEAST) = throws IllegalArgumentException; addHold(5, 1) = 0; liftoff() = 61
            """);
        check("Promise 4: duration 1 to 999, above", """
            addHold(5, 1000) = throws IllegalArgumentException; addHold(5, GREATEST) = throws IllegalArgumentException
            addHold(5, 999) = 0; liftoff() = 1059
            """);
        check("Promise 4: there is a hold with this count", """
            addHold(5, 3) = 0; addHold(5, 3) = throws IllegalArgumentException; addHold(5, 4) = throws IllegalArgumentException
            items(1) = 1; liftoff() = 63; addHold(6, 3) = 1; addHold(4, 3) = 2; addHold(4, 3) = throws IllegalArgumentException
            """);
        check("Promise 4: a refused hold leaves its count free", """
            addHold(5, 0) = throws IllegalArgumentException; addHold(5, 2) = 0; liftoff() = 62
            """);
        check("Promise 4: there are 4 holds", """
            addHold(1, 1) = 0; addHold(2, 1) = 1; addHold(3, 1) = 2; addHold(4, 1) = 3; addHold(5, 1) = throws IllegalStateException
            items(1) = 4; liftoff() = 64
            """);
        check("Promise 4: the order of the exceptions with 4 holds", """
            addHold(1, 1) = 0; addHold(2, 1) = 1; addHold(3, 1) = 2; addHold(4, 1) = 3; addHold(4, 1) = throws IllegalArgumentException
            addHold(61, 1) = throws IllegalArgumentException; addHold(5, 1000) = throws IllegalArgumentException
            addHold(5, 999) = throws IllegalStateException
            """);
        check("Promise 4: the order of the exceptions behind the start", """
            addHold(1, 1) = 0; command(0) = 1; addHold(1, 1) = throws IllegalArgumentException
            addHold(61, 1) = throws IllegalArgumentException; addHold(2, 0) = throws IllegalArgumentException
            addHold(2, 1) = throws IllegalStateException; liftoff() = 61
            """);
    }

    private static void addPoint() {
        check("Promise 5: count 0 to the length, below", """
            begin(10) = 60; addPoint(-1) = throws IllegalArgumentException; addPoint(LEAST) = throws IllegalArgumentException
            addPoint(0) = 0; command(0) = 1; advance(10) = 1; ifRecycled(0) = 10
            """);
        check("Promise 5: count 0 to the length, above", """
            begin(10) = 60; addPoint(11) = throws IllegalArgumentException; addPoint(GREATEST) = throws IllegalArgumentException
            addPoint(10) = 0; command(0) = 1; ifRecycled(0) = 10
            """);
        check("Promise 5: there are 4 points", """
            addPoint(1) = 0; addPoint(2) = 1; addPoint(3) = 2; addPoint(60) = 3; addPoint(4) = throws IllegalStateException
            items(2) = 4; command(0) = 1; ifRecycled(3) = 60; ifRecycled(4) = throws IndexOutOfBoundsException
            """);
        check("Promise 5: the order of the exceptions", """
            addPoint(1) = 0; addPoint(2) = 1; addPoint(3) = 2; addPoint(60) = 3; addPoint(61) = throws IllegalArgumentException
            addPoint(-1) = throws IllegalArgumentException; begin(60) = 60; command(0) = 1
            addPoint(61) = throws IllegalArgumentException; addPoint(60) = throws IllegalStateException
            """);
    }

    private static void addConstraint() {
        check("Promise 6: from 0 to the length, below", """
            begin(10) = 60; addConstraint(-1, 0, 1) = throws IllegalArgumentException
            addConstraint(-1, -1, 1) = throws IllegalArgumentException
            addConstraint(LEAST, LEAST, 1) = throws IllegalArgumentException; addConstraint(0, 0, 1) = 0; constraint(0, 1) = 0
            """);
        check("Promise 6: from 0 to the length, above", """
            begin(10) = 60; addConstraint(11, 0, 1) = throws IllegalArgumentException
            addConstraint(11, 11, 1) = throws IllegalArgumentException
            addConstraint(GREATEST, 0, 1) = throws IllegalArgumentException; addConstraint(10, 0, 1) = 0; constraint(0, 1) = 1
            """);
        check("Promise 6: to 0 to from, below", """
            addConstraint(5, -1, 1) = throws IllegalArgumentException; addConstraint(5, LEAST, 1) = throws IllegalArgumentException
            addConstraint(5, 0, 1) = 0
            """);
        check("Promise 6: to 0 to from, above", """
            addConstraint(5, 6, 1) = throws IllegalArgumentException; addConstraint(5, GREATEST, 1) = throws IllegalArgumentException
            addConstraint(0, 1, 1) = throws IllegalArgumentException; addConstraint(5, 5, 1) = 0
            """);
        check("Promise 6: quorum 1 to 5, below", """
            addConstraint(5, 5, 0) = throws IllegalArgumentException; addConstraint(5, 5, -1) = throws IllegalArgumentException
            addConstraint(5, 5, LEAST) = throws IllegalArgumentException; addConstraint(5, 5, 1) = 0; constraint(0, 0) = 0
            vote(0, 0, 1) = 0; constraint(0, 0) = 1
            """);
        check("Promise 6: quorum 1 to 5, above", """
            addConstraint(5, 5, 6) = throws IllegalArgumentException; addConstraint(5, 5, GREATEST) = throws IllegalArgumentException
            addConstraint(5, 5, 5) = 0; vote(0, 0, 1) = 0; vote(0, 1, 1) = 0; vote(0, 2, 1) = 0; vote(0, 3, 1) = 0
            constraint(0, 0) = 0; vote(0, 4, 1) = 0; constraint(0, 0) = 1
            """);
        String six = """
            addConstraint(1, 1, 1) = 0; addConstraint(1, 1, 1) = 1; addConstraint(1, 1, 1) = 2; addConstraint(1, 1, 1) = 3
            addConstraint(1, 1, 1) = 4; addConstraint(1, 1, 1) = 5
            """;
        check("Promise 6: there are 6 constraints", six + """
            addConstraint(1, 1, 1) = throws IllegalStateException; items(3) = 6; vote(5, 4, 2) = 0
            vote(6, 0, 1) = throws IndexOutOfBoundsException
            """);
        check("Promise 6: the order of the exceptions", six + """
            addConstraint(61, 0, 1) = throws IllegalArgumentException; addConstraint(1, 2, 1) = throws IllegalArgumentException
            addConstraint(1, 1, 6) = throws IllegalArgumentException; begin(60) = 60; command(0) = 1
            addConstraint(61, 0, 1) = throws IllegalArgumentException; addConstraint(1, 2, 1) = throws IllegalArgumentException
            addConstraint(1, 1, 0) = throws IllegalArgumentException; addConstraint(1, 1, 1) = throws IllegalStateException
            """);
    }

    private static void addSpan() {
        check("Promise 7: first 0 to 99999, below", """
            addSpan(-1, 5, false) = throws IllegalArgumentException; addSpan(-1, -1, true) = throws IllegalArgumentException
            addSpan(LEAST, 5, false) = throws IllegalArgumentException; addSpan(LEAST, LEAST, true) = throws IllegalArgumentException
            addSpan(0, 5, false) = 0; addSpan(0, 0, true) = 0; isOpen(0) = false; isOpen(1) = true
            """);
        check("Promise 7: first 0 to 99999, above", """
            addSpan(100000, 100000, false) = throws IllegalArgumentException
            addSpan(GREATEST, GREATEST, true) = throws IllegalArgumentException
            addSpan(100000, 99999, true) = throws IllegalArgumentException; addSpan(99999, 99999, false) = 0
            isOpen(99999) = true; isOpen(99998) = false; addSpan(99999, 99999, true) = 0; isOpen(99999) = false
            """);
        check("Promise 7: last first to 99999, below", """
            addSpan(5, 4, false) = throws IllegalArgumentException; addSpan(5, LEAST, true) = throws IllegalArgumentException
            addSpan(5, -1, true) = throws IllegalArgumentException; addSpan(5, 5, false) = 0; addSpan(5, 5, true) = 0
            """);
        check("Promise 7: last first to 99999, above", """
            addSpan(0, 100000, false) = throws IllegalArgumentException; addSpan(0, GREATEST, true) = throws IllegalArgumentException
            addSpan(0, 99999, false) = 0; isOpen(0) = true; isOpen(99999) = true; addSpan(0, 99999, true) = 0; isOpen(0) = false
            isOpen(99999) = false
            """);
        String windows = """
            addSpan(1, 1, false) = 0; addSpan(2, 2, false) = 1; addSpan(3, 3, false) = 2; addSpan(4, 4, false) = 3
            """;
        String cutouts = """
            addSpan(1, 1, true) = 0; addSpan(2, 2, true) = 1; addSpan(3, 3, true) = 2; addSpan(4, 4, true) = 3
            addSpan(5, 5, true) = 4; addSpan(6, 6, true) = 5
            """;
        check("Promise 7: there are 4 windows, for a window", windows + """
            addSpan(5, 5, false) = throws IllegalStateException; isOpen(4) = true; isOpen(5) = false; addSpan(4, 4, true) = 0
            isOpen(4) = false
            """);
        check("Promise 7: there are 6 cutouts, for a cutout", cutouts + """
            addSpan(7, 7, true) = throws IllegalStateException; items(5) = 6; addSpan(0, 9, false) = 0; isOpen(6) = false
            isOpen(7) = true
            """);
        check("Promise 7: the order of the exceptions", windows + cutouts + """
            addSpan(5, 4, false) = throws IllegalArgumentException; addSpan(-1, 4, true) = throws IllegalArgumentException
            addSpan(5, 100000, true) = throws IllegalArgumentException; command(3) = 4
            addSpan(5, 4, false) = throws IllegalArgumentException; addSpan(0, 100000, true) = throws IllegalArgumentException
            addSpan(5, 5, false) = throws IllegalStateException; addSpan(5, 5, true) = throws IllegalStateException
            """);
        check("Promise 7: refused in phase 4 and in phase 5, taken in phase 3", """
            begin(1) = 60; addSpan(0, 9, false) = 0; save(0) = 0; command(3) = 4; addSpan(5, 5, false) = throws IllegalStateException
            addSpan(5, 5, true) = throws IllegalStateException; restore(0) = 0; command(0) = 1; advance(2) = 5
            addSpan(5, 5, false) = throws IllegalStateException; addSpan(5, 5, true) = throws IllegalStateException
            restore(0) = 0; command(0) = 1; command(1) = 3; addSpan(5, 5, false) = 1; addSpan(5, 5, true) = 0
            """);
    }

    private static void setLimits() {
        check("Promise 8: budget 0 to 9999, below", """
            setLimits(-1, 3) = throws IllegalArgumentException; setLimits(LEAST, 3) = throws IllegalArgumentException
            setLimits(0, 3) = 600; setLimits(1, 3) = 0
            """);
        check("Promise 8: budget 0 to 9999, above", """
            setLimits(10000, 3) = throws IllegalArgumentException; setLimits(GREATEST, 3) = throws IllegalArgumentException
            setLimits(9999, 3) = 600; setLimits(1, 3) = 9999
            """);
        check("Promise 8: recycles 0 to 9, below", """
            addPoint(60) = 0; setLimits(5, -1) = throws IllegalArgumentException; setLimits(5, LEAST) = throws IllegalArgumentException
            setLimits(5, 0) = 600; command(0) = 1; command(1) = 3; recycle(0) = throws IllegalStateException
            """);
        check("Promise 8: recycles 0 to 9, above", """
            addPoint(60) = 0; setLimits(5, 10) = throws IllegalArgumentException; setLimits(5, GREATEST) = throws IllegalArgumentException
            setLimits(5, 9) = 600; command(0) = 1; command(1) = 3; 9 * recycle(0) = 60; status(4) = 9; status(11) = 10
            recycle(0) = throws IllegalStateException; status(4) = 9
            """);
        check("Promise 8: one wrong argument changes neither limit", """
            addPoint(60) = 0; setLimits(7, 1) = 600; setLimits(8, 10) = throws IllegalArgumentException
            setLimits(10000, 2) = throws IllegalArgumentException; setLimits(7, 1) = 7; command(0) = 1; command(1) = 3
            recycle(0) = 60; recycle(0) = throws IllegalStateException
            """);
        check("Promise 8: in all phases", """
            begin(1) = 60; addHold(1, 2) = 0; addSpan(0, 9, false) = 0; setLimits(1, 1) = 600; command(0) = 1; setLimits(2, 1) = 1
            advance(1) = 2; setLimits(3, 1) = 2; advance(1) = 1; command(1) = 3; setLimits(4, 1) = 3; save(0) = 2; command(3) = 4
            setLimits(5, 1) = 4; restore(0) = 2; command(2) = 1; advance(2) = 5; setLimits(6, 1) = 4; setLimits(7, 1) = 6
            """);
        check("Promise 8: a budget equal to the used hold time, and one below", """
            command(0) = 1; command(1) = 3; advance(5) = 3; setLimits(5, 3) = 600; status(0) = 3; setLimits(4, 3) = 5; status(0) = 3
            setLimits(6, 3) = 4; advance(1) = 3; setLimits(0, 3) = 6; status(0) = 3; advance(1) = 4; status(3) = 7
            """);
    }

    private static void vote() {
        check("Promise 9: the constraint does not exist", """
            vote(0, 0, 0) = throws IndexOutOfBoundsException; addConstraint(9, 9, 1) = 0; addConstraint(9, 9, 1) = 1
            vote(-1, 0, 1) = throws IndexOutOfBoundsException; vote(LEAST, 0, 1) = throws IndexOutOfBoundsException
            vote(2, 0, 1) = throws IndexOutOfBoundsException; vote(GREATEST, 0, 1) = throws IndexOutOfBoundsException
            vote(0, 0, 1) = 0; vote(1, 0, 2) = 0; constraint(0, 2) = 1; constraint(1, 3) = 1
            """);
        check("Promise 9: voter 0 to 4", """
            addConstraint(9, 9, 1) = 0; vote(0, -1, 1) = throws IndexOutOfBoundsException
            vote(0, LEAST, 1) = throws IndexOutOfBoundsException; vote(0, 5, 1) = throws IndexOutOfBoundsException
            vote(0, 32, 1) = throws IndexOutOfBoundsException; vote(0, GREATEST, 1) = throws IndexOutOfBoundsException
            constraint(0, 2) = 0; vote(0, 0, 1) = 0; vote(0, 4, 1) = 0; constraint(0, 2) = 2
            """);
        check("Promise 9: vote 0 none, 1 go, 2 no-go", """
            addConstraint(9, 9, 1) = 0; vote(0, 0, -1) = throws IllegalArgumentException
            vote(0, 0, LEAST) = throws IllegalArgumentException; vote(0, 0, 3) = throws IllegalArgumentException
            vote(0, 0, GREATEST) = throws IllegalArgumentException; vote(0, 0, 0) = 0; vote(0, 0, 1) = 0
            vote(0, 0, 3) = throws IllegalArgumentException; vote(0, 0, 2) = 1; vote(0, 0, -1) = throws IllegalArgumentException
            vote(0, 0, 1) = 2; vote(0, 0, 0) = 1; vote(0, 0, 0) = 0
            """);
        check("Promise 9: the order of the exceptions", """
            addConstraint(9, 9, 1) = 0; vote(1, 0, 3) = throws IndexOutOfBoundsException
            vote(0, 5, 3) = throws IndexOutOfBoundsException; vote(0, -1, -1) = throws IndexOutOfBoundsException
            vote(0, 4, 3) = throws IllegalArgumentException
            """);
        check("Promise 9: in all phases", """
            begin(1) = 60; addConstraint(0, 0, 1) = 0; addHold(1, 2) = 0; addSpan(0, 9, false) = 0; vote(0, 0, 2) = 0
            command(0) = 1; vote(0, 0, 1) = 2; advance(1) = 2; vote(0, 0, 2) = 1; advance(1) = 1; command(1) = 3
            vote(0, 0, 1) = 2; save(0) = 2; command(3) = 4; vote(0, 0, 2) = 1; vote(0, 0, 0) = 2; restore(0) = 2; command(2) = 1
            advance(2) = 5; vote(0, 0, 2) = 1; constraint(0, 3) = 1
            """);
    }
}
