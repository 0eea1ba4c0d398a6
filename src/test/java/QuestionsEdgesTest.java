/** Promises 20 to 32: each sentence that names a boundary, by a run of its own. */
public final class QuestionsEdgesTest {
    private static final String LEAST = "-2147483648";
    private static final String GREATEST = "2147483647";
    /** The clock shows 99600. */
    private static final String LATE = "166 * advance(600) = 0\n";

    public static void main(String[] args) {
        status();
        items();
        constraint();
        expected();
        liftoff();
        slack();
        slackAtTheEnd();
        isOpen();
        ifRecycled();
        bestPoint();
        ifAdvanced();
        log();
        holdShare();
        digest();
        Runs.end();
    }

    /** A run in which LEAST and GREATEST stand for the least and the greatest int. */
    private static void check(String title, String run) {
        Runs.check(title, run.replace("LEAST", LEAST).replace("GREATEST", GREATEST));
    }

    private static void status() {
        check("Promise 20: what is not 0 to 11", """
            status(-1) = throws IllegalArgumentException; status(LEAST) = throws IllegalArgumentException
            status(12) = throws IllegalArgumentException; status(GREATEST) = throws IllegalArgumentException; status(0) = 0
            status(11) = 0
            """);
        check("Promise 20: 5: 0 if the phase is not 2", """
            begin(3) = 60; addHold(3, 3) = 0; addSpan(0, 9, false) = 0; status(5) = 0; command(0) = 1; status(5) = 0; advance(1) = 2
            status(5) = 2; advance(1) = 2; status(5) = 1; save(0) = 2; command(3) = 4; status(5) = 0; restore(0) = 2; status(5) = 1
            advance(1) = 1; status(5) = 0; command(1) = 3; status(5) = 0; command(2) = 1; advance(4) = 5; status(5) = 0
            """);
        check("Promise 20: 6: NONE if the phase is not 3", """
            begin(3) = 60; addHold(3, 2) = 0; addSpan(0, 9, false) = 0; status(6) = -1; command(0) = 1; status(6) = -1; command(1) = 3
            status(6) = 10; command(2) = 1; status(6) = -1; advance(1) = 2; status(6) = -1; advance(1) = 1; command(1) = 3
            save(0) = 2; command(3) = 4; status(6) = -1; restore(0) = 2; status(6) = 10; command(2) = 1; advance(4) = 5; status(6) = -1
            """);
        check("Promise 20: 6: the reasons 0, 5, 10 and 11", """
            begin(1) = 60; addConstraint(1, 1, 1) = 0; addConstraint(0, 0, 1) = 1; addConstraint(0, 0, 1) = 2
            addConstraint(0, 0, 1) = 3; addConstraint(0, 0, 1) = 4; addConstraint(0, 0, 1) = 5; command(0) = 1; advance(1) = 3
            status(6) = 0; vote(0, 0, 1) = 0; command(2) = 1; advance(1) = 1; vote(1, 0, 1) = 0; vote(2, 0, 1) = 0; vote(3, 0, 1) = 0
            vote(4, 0, 1) = 0; advance(1) = 3; status(6) = 5; vote(5, 0, 1) = 0; command(2) = 1; command(1) = 3; status(6) = 10
            command(2) = 1; advance(1) = 3; status(6) = 11
            """);
        check("Promise 20: 9 and 10: in this pass", """
            begin(2) = 60; addEvent(2, -1) = 0; addHold(2, 2) = 0; addPoint(2) = 0; addSpan(0, 99, false) = 0; status(9) = 0; status(10) = 0
            command(0) = 1; status(10) = 0; advance(1) = 2; status(10) = 1; status(9) = 0; advance(2) = 1; status(9) = 1; command(1) = 3
            recycle(0) = 1; status(9) = 0; status(10) = 0; command(2) = 1; advance(5) = 5; status(9) = 1; status(10) = 1
            """);
        check("Promise 20: 11: 0 before the start, also if it is scrubbed then", """
            status(11) = 0; command(3) = 4; status(11) = 0; begin(60) = 60; command(0) = 1; status(11) = 1; command(3) = 4; status(11) = 1
            """);
    }

    private static void items() {
        check("Promise 21: sort is not 0 to 5", """
            items(-1) = throws IllegalArgumentException; items(LEAST) = throws IllegalArgumentException
            items(6) = throws IllegalArgumentException; items(GREATEST) = throws IllegalArgumentException; items(0) = 0; items(5) = 0
            """);
        check("Promise 21: each sort by itself", """
            addEvent(1, -1) = 0; items(0) = 1; items(1) = 0; addHold(1, 1) = 0; items(1) = 1; items(2) = 0; addPoint(1) = 0; items(2) = 1
            items(3) = 0; addConstraint(1, 1, 1) = 0; items(3) = 1; items(4) = 0; addSpan(1, 1, false) = 0; items(4) = 1; items(5) = 0
            addSpan(1, 1, true) = 0; addSpan(1, 1, true) = 1; items(5) = 2; items(4) = 1; items(0) = 1
            """);
    }

    private static void constraint() {
        check("Promise 22: the constraint does not exist", """
            constraint(0, 0) = throws IndexOutOfBoundsException; addConstraint(60, 0, 1) = 0; constraint(0, 1) = 1
            constraint(-1, 0) = throws IndexOutOfBoundsException; constraint(LEAST, 0) = throws IndexOutOfBoundsException
            constraint(1, 0) = throws IndexOutOfBoundsException; constraint(GREATEST, 0) = throws IndexOutOfBoundsException
            """);
        check("Promise 22: what is not 0 to 3", """
            addConstraint(60, 0, 1) = 0; constraint(0, -1) = throws IllegalArgumentException
            constraint(0, LEAST) = throws IllegalArgumentException; constraint(0, 4) = throws IllegalArgumentException
            constraint(0, GREATEST) = throws IllegalArgumentException; constraint(0, 0) = 0; constraint(0, 3) = 0
            """);
        check("Promise 22: the order of the exceptions", """
            constraint(0, 4) = throws IndexOutOfBoundsException; constraint(-1, -1) = throws IndexOutOfBoundsException
            addConstraint(60, 0, 1) = 0; constraint(1, 4) = throws IndexOutOfBoundsException; constraint(0, 4) = throws IllegalArgumentException
            """);
        check("Promise 22: 2 and 3: none to all five votes", """
            addConstraint(60, 0, 1) = 0; constraint(0, 2) = 0; vote(0, 0, 1) = 0; vote(0, 1, 1) = 0; vote(0, 2, 1) = 0; vote(0, 3, 1) = 0
            constraint(0, 2) = 4; vote(0, 4, 1) = 0; constraint(0, 2) = 5; constraint(0, 3) = 0; vote(0, 4, 2) = 1; constraint(0, 2) = 4
            constraint(0, 3) = 1; vote(0, 0, 2) = 1; vote(0, 1, 2) = 1; vote(0, 2, 2) = 1; vote(0, 3, 2) = 1; constraint(0, 2) = 0
            constraint(0, 3) = 5; constraint(0, 0) = 0
            """);
        check("Promise 22: 1: at the count 0, and behind liftoff", """
            begin(1) = 60; addConstraint(0, 0, 1) = 0; addConstraint(1, 1, 1) = 1; vote(0, 0, 1) = 0; vote(1, 0, 1) = 0
            addSpan(0, 9, false) = 0; constraint(0, 1) = 0; constraint(1, 1) = 1; command(0) = 1; advance(1) = 1; constraint(0, 1) = 1
            constraint(1, 1) = 0; advance(1) = 5; constraint(0, 1) = 1; constraint(1, 1) = 0
            """);
    }

    private static void expected() {
        check("Promise 23: the event does not exist", """
            expected(0) = throws IndexOutOfBoundsException; addEvent(0, -1) = 0; expected(0) = 60
            expected(-1) = throws IndexOutOfBoundsException; expected(LEAST) = throws IndexOutOfBoundsException
            expected(1) = throws IndexOutOfBoundsException; expected(GREATEST) = throws IndexOutOfBoundsException
            """);
        check("Promise 23: holds with a count less than that of the event are not counted", """
            begin(20) = 60; addEvent(10, -1) = 0; expected(0) = 10; addHold(9, 100) = 0; expected(0) = 10; addHold(10, 7) = 1
            expected(0) = 17; addHold(11, 30) = 2; expected(0) = 47; addHold(20, 2) = 3; expected(0) = 49
            """);
        check("Promise 23: a hold above the present count is not counted", """
            begin(20) = 60; addEvent(5, -1) = 0; addHold(19, 3) = 0; addPoint(18) = 0; command(0) = 1; advance(6) = 1; status(2) = 17
            expected(0) = 18; command(1) = 3; recycle(0) = 17; expected(0) = 19
            """);
        check("Promise 23: in phase 2 an event at the present count is expected after the hold", """
            begin(5) = 60; addEvent(5, -1) = 0; addHold(5, 4) = 0; expected(0) = 4; command(0) = 1; expected(0) = 4; advance(1) = 2
            expected(0) = 4; advance(2) = 2; status(5) = 1; expected(0) = 4; advance(1) = 1; expected(0) = 4; advance(1) = 1
            log(0, 0) = 4; expected(0) = -1
            """);
        check("Promise 23: in phase 3 an event at the present count is expected after the hold", """
            begin(5) = 60; addConstraint(5, 5, 1) = 0; addEvent(5, -1) = 0; command(0) = 1; advance(1) = 3; expected(0) = 1
            advance(3) = 3; expected(0) = 4; vote(0, 0, 1) = 0; command(2) = 1; expected(0) = 4; advance(1) = 1; log(0, 0) = 4
            """);
        check("Promise 23: in phase 3 before a built-in hold at the present count", """
            begin(5) = 60; addEvent(5, -1) = 0; addHold(5, 4) = 0; command(0) = 1; command(1) = 3; expected(0) = 4; advance(2) = 3
            expected(0) = 6
            """);
        check("Promise 23: NONE if the event has fired in this pass", """
            begin(5) = 60; addEvent(5, -1) = 0; addPoint(5) = 0; command(0) = 1; expected(0) = 0; advance(1) = 1; expected(0) = -1
            command(1) = 3; recycle(0) = 4; expected(0) = 1
            """);
        check("Promise 23: NONE if it has fired, and the count is still its own", """
            begin(5) = 60; addConstraint(0, 0, 1) = 0; addEvent(5, -1) = 0; addEvent(5, 0) = 1; command(0) = 1; advance(1) = 3
            status(2) = 5; expected(0) = -1; expected(1) = 1
            """);
        check("Promise 23: NONE if its count is greater than the present one", """
            begin(5) = 60; addEvent(4, -1) = 0; addEvent(3, -1) = 1; addPoint(3) = 0; command(0) = 1; advance(4) = 1; command(1) = 3
            recycle(0) = 1; status(9) = 0; expected(0) = -1; expected(1) = 4
            """);
        check("Promise 23: NONE in the phases 4 and 5", """
            begin(1) = 60; addConstraint(0, 0, 1) = 0; addEvent(0, -1) = 0; addSpan(0, 9, false) = 0; save(0) = 0; expected(0) = 1
            command(3) = 4; expected(0) = -1; restore(0) = 0; vote(0, 0, 1) = 0; command(0) = 1; advance(2) = 5; expected(0) = -1
            """);
        check("Promise 23: behind the last second of the clock", "begin(3600) = 60; addEvent(0, -1) = 0; addHold(0, 999) = 0\n" + LATE
                + "advance(399) = 0; expected(0) = 104598; liftoff() = 104598");
    }

    private static void liftoff() {
        check("Promise 24: NONE in phase 4 alone", """
            begin(1) = 60; addSpan(0, 9, false) = 0; addHold(1, 2) = 0; liftoff() = 3; command(0) = 1; liftoff() = 3; advance(1) = 2
            liftoff() = 3; advance(1) = 1; command(1) = 3; liftoff() = 3; save(0) = 2; command(3) = 4; liftoff() = -1; advance(1) = 4
            liftoff() = -1; restore(0) = 2; command(2) = 1; advance(2) = 5; liftoff() = 3
            """);
        check("Promise 24: NONE when the budget scrubbed", "setLimits(0, 0) = 600; command(0) = 1; command(1) = 3; liftoff() = 60; advance(1) = 4; liftoff() = -1");
        check("Promise 24: the second of liftoff 0 is not to be had, that of 1 is", """
            begin(1) = 60; addSpan(0, 99999, false) = 0; command(0) = 1; advance(2) = 5; liftoff() = 1
            """);
        check("Promise 24: the greatest one", "begin(3600) = 60; addHold(3600, 999) = 0; addHold(1, 999) = 1; addHold(2, 999) = 2; addHold(0, 999) = 3\n"
                + LATE + "advance(399) = 0; liftoff() = 107595");
        check("Promise 24: windows and constraints play no part", """
            begin(9) = 60; addConstraint(9, 0, 5) = 0; addSpan(50, 60, false) = 0; liftoff() = 9; command(0) = 1; advance(3) = 3
            liftoff() = 12
            """);
    }

    private static void slack() {
        check("Promise 25: 0 if the expected second is open, for the least one", """
            addSpan(60, 60, false) = 0; slack(false) = 0; addSpan(60, 60, true) = 0; slack(false) = -1
            """);
        check("Promise 25: the window's first second is the expected one, the next one, the one before", """
            addSpan(61, 70, false) = 0; slack(false) = 1; slack(true) = 10; addSpan(60, 61, false) = 1; slack(false) = 0
            slack(true) = 10
            """);
        check("Promise 25: the window's last second is the one before, the expected one, the next one", """
            addSpan(0, 59, false) = 0; slack(false) = -1; slack(true) = -1; addSpan(0, 60, false) = 1; slack(false) = 0; slack(true) = 0
            addSpan(0, 61, false) = 2; slack(false) = 0; slack(true) = 1
            """);
        check("Promise 25: a cutout that begins at the expected second, and one that ends there", """
            addSpan(0, 99, false) = 0; addSpan(60, 62, true) = 0; slack(false) = 3; addSpan(50, 60, true) = 1; slack(false) = 3
            addSpan(63, 63, true) = 2; slack(false) = 4; slack(true) = 39
            """);
        check("Promise 25: a cutout that ends before the expected second, and one that begins behind it", """
            addSpan(0, 99, false) = 0; addSpan(50, 59, true) = 0; slack(false) = 0; addSpan(61, 70, true) = 1; slack(false) = 0
            slack(true) = 39; addSpan(71, 99, true) = 2; slack(true) = 0; slack(false) = 0
            """);
        check("Promise 25: cutouts at the window's end, one behind the other", """
            addSpan(0, 99, false) = 0; addSpan(99, 99, true) = 0; slack(true) = 38; addSpan(98, 98, true) = 1; slack(true) = 37
            addSpan(90, 97, true) = 2; slack(true) = 29; slack(false) = 0
            """);
        check("Promise 25: the whole window is cut out", """
            addSpan(70, 80, false) = 0; addSpan(70, 75, true) = 0; slack(false) = 16; addSpan(76, 80, true) = 1; slack(false) = -1
            slack(true) = -1
            """);
        check("Promise 25: windows in descending order", """
            addSpan(90, 95, false) = 0; addSpan(70, 75, false) = 1; addSpan(0, 10, false) = 2; slack(false) = 10; slack(true) = 35
            addSpan(90, 95, true) = 0; slack(true) = 15
            """);
        check("Promise 25: in the phases 0 to 3", """
            begin(2) = 60; addHold(2, 2) = 0; addSpan(6, 9, false) = 0; slack(false) = 2; slack(true) = 5; command(0) = 1; slack(false) = 2
            slack(true) = 5; advance(1) = 2; slack(false) = 2; slack(true) = 5; advance(1) = 1; command(1) = 3; slack(false) = 2
            slack(true) = 5; advance(1) = 3; slack(false) = 1; slack(true) = 4; advance(4) = 3; slack(false) = 0; slack(true) = 0
            advance(1) = 3; slack(false) = -1; slack(true) = -1
            """);
        check("Promise 25: NONE in the phases 4 and 5", """
            begin(1) = 60; addSpan(0, 9, false) = 0; save(0) = 0; slack(false) = 0; slack(true) = 8; command(3) = 4; slack(false) = -1
            slack(true) = -1; restore(0) = 0; command(0) = 1; advance(1) = 1; slack(true) = 8; advance(1) = 5; slack(false) = -1
            slack(true) = -1
            """);
        check("Promise 25: no window", "slack(false) = -1; slack(true) = -1; addSpan(0, 99, true) = 0; slack(false) = -1; slack(true) = -1");
    }

    private static void slackAtTheEnd() {
        check("Promise 25: the last second is expected", "addSpan(0, 99999, false) = 0\n" + LATE + """
            advance(339) = 0; liftoff() = 99999; slack(false) = 0; slack(true) = 0; advance(1) = 0; liftoff() = 100000
            slack(false) = -1; slack(true) = -1
            """);
        check("Promise 25: a cutout up to the last second", "addSpan(0, 99999, false) = 0; addSpan(99999, 99999, true) = 0\n" + LATE + """
            advance(338) = 0; slack(false) = 0; slack(true) = 0; advance(1) = 0; slack(false) = -1; slack(true) = -1
            """);
        check("Promise 25: the greatest slack", """
            begin(1) = 60; addSpan(99999, 99999, false) = 0; slack(false) = 99998; slack(true) = 99998; addSpan(1, 1, false) = 1
            slack(false) = 0; slack(true) = 99998
            """);
        check("Promise 25: a cutout from the second 0 on", "begin(1) = 60; addSpan(0, 5, false) = 0; addSpan(0, 5, true) = 0; slack(true) = -1; slack(false) = -1");
    }

    private static void isOpen() {
        check("Promise 26: second 0 to 99999, below", """
            addSpan(0, 5, false) = 0; isOpen(-1) = throws IllegalArgumentException; isOpen(LEAST) = throws IllegalArgumentException
            isOpen(0) = true
            """);
        check("Promise 26: second 0 to 99999, above", """
            addSpan(9, 99999, false) = 0; isOpen(100000) = throws IllegalArgumentException; isOpen(GREATEST) = throws IllegalArgumentException
            isOpen(99999) = true
            """);
        check("Promise 26: the last of four windows, the last of six cutouts", """
            addSpan(0, 0, false) = 0; addSpan(2, 2, false) = 1; addSpan(4, 4, false) = 2; isOpen(8) = false; addSpan(6, 9, false) = 3
            isOpen(8) = true; addSpan(50, 50, true) = 0; addSpan(51, 51, true) = 1; addSpan(52, 52, true) = 2; addSpan(53, 53, true) = 3
            addSpan(54, 54, true) = 4; isOpen(8) = true; addSpan(8, 8, true) = 5; isOpen(8) = false; isOpen(7) = true; isOpen(9) = true
            """);
    }

    private static void ifRecycled() {
        check("Promise 27: the point does not exist", """
            ifRecycled(0) = throws IndexOutOfBoundsException; addPoint(60) = 0; command(0) = 1; ifRecycled(0) = 60
            ifRecycled(-1) = throws IndexOutOfBoundsException; ifRecycled(LEAST) = throws IndexOutOfBoundsException
            ifRecycled(1) = throws IndexOutOfBoundsException; ifRecycled(GREATEST) = throws IndexOutOfBoundsException
            """);
        check("Promise 27: NONE if the phase is not 1 to 3", """
            begin(2) = 60; addPoint(2) = 0; addHold(2, 2) = 0; addSpan(0, 9, false) = 0; ifRecycled(0) = -1; command(0) = 1
            ifRecycled(0) = 4; advance(1) = 2; ifRecycled(0) = 5; advance(1) = 1; ifRecycled(0) = 6; command(1) = 3; ifRecycled(0) = 6
            save(0) = 2; command(3) = 4; ifRecycled(0) = -1; restore(0) = 2; command(2) = 1; advance(3) = 5; ifRecycled(0) = -1
            """);
        check("Promise 27: NONE if the count of the point is less than the present count", """
            begin(20) = 60; addPoint(9) = 0; addPoint(10) = 1; addPoint(11) = 2; command(0) = 1; advance(10) = 1; ifRecycled(0) = -1
            ifRecycled(1) = 20; ifRecycled(2) = 21; advance(1) = 1; ifRecycled(0) = 20
            """);
        check("Promise 27: the order of exception and NONE", "ifRecycled(0) = throws IndexOutOfBoundsException; command(3) = 4; ifRecycled(0) = throws IndexOutOfBoundsException");
        check("Promise 27: holds at the point's count, above it, below it, and at 0", """
            begin(20) = 60; addPoint(10) = 0; addHold(11, 100) = 0; addHold(10, 7) = 1; addHold(9, 20) = 2; addHold(0, 3) = 3
            command(0) = 1; advance(600) = 3; command(2) = 1; status(1) = 600; status(2) = 0; ifRecycled(0) = 640
            """);
        check("Promise 27: also where no further recycle is allowed", """
            addPoint(60) = 0; setLimits(9, 0) = 600; command(0) = 1; command(1) = 3; ifRecycled(0) = 60; recycle(0) = throws IllegalStateException
            """);
        check("Promise 27: a point at the count 0", "begin(1) = 60; addPoint(0) = 0; command(0) = 1; ifRecycled(0) = -1; advance(1) = 1; ifRecycled(0) = 1");
    }

    private static void bestPoint() {
        check("Promise 28: NONE if there is no point", "addSpan(0, 99999, false) = 0; command(0) = 1; bestPoint() = -1");
        check("Promise 28: NONE in the phases 0, 4 and 5", """
            begin(1) = 60; addPoint(1) = 0; addPoint(0) = 1; addSpan(0, 99, false) = 0; bestPoint() = -1; save(0) = 0; command(0) = 1
            bestPoint() = 0; command(3) = 4; bestPoint() = -1; restore(0) = 0; command(0) = 1; advance(1) = 1; bestPoint() = 1
            advance(1) = 5; bestPoint() = -1
            """);
        check("Promise 28: not before the expected liftoff: the window ends at it, and before it", """
            addPoint(60) = 0; addSpan(0, 60, false) = 0; command(0) = 1; bestPoint() = 0; advance(1) = 1; bestPoint() = -1
            addSpan(61, 61, false) = 1; bestPoint() = 0; addSpan(61, 61, true) = 0; bestPoint() = -1
            """);
        check("Promise 28: the earliest, which is never the one with the greater count", """
            begin(20) = 60; addPoint(10) = 0; addPoint(20) = 1; addHold(9, 30) = 0; addHold(10, 1) = 1; command(0) = 1; advance(10) = 1
            command(1) = 3; addSpan(0, 99, false) = 0; ifRecycled(0) = 51; ifRecycled(1) = 61; bestPoint() = 0
            """);
        check("Promise 28: of several the one with the least count", """
            begin(20) = 60; addPoint(20) = 0; addPoint(15) = 1; addPoint(12) = 2; addPoint(14) = 3; command(0) = 1; advance(8) = 1
            status(2) = 12; addSpan(90, 99, false) = 0; bestPoint() = 2; addSpan(22, 22, false) = 1; bestPoint() = 2
            addSpan(0, 30, false) = 2; bestPoint() = 2
            """);
        check("Promise 28: of several with one count the lowest number", """
            begin(20) = 60; addPoint(15) = 0; addPoint(12) = 1; addPoint(12) = 2; addPoint(12) = 3; command(0) = 1; advance(8) = 1
            addSpan(0, 99, false) = 0; bestPoint() = 1; addSpan(20, 30, true) = 0; bestPoint() = 1
            """);
        check("Promise 28: a point whose count is less than the present one is none", """
            begin(20) = 60; addPoint(11) = 0; addPoint(13) = 1; command(0) = 1; addSpan(0, 99, false) = 0; bestPoint() = -1; advance(7) = 1
            status(2) = 13; bestPoint() = 1; advance(1) = 1; status(2) = 12; bestPoint() = 1; advance(1) = 1; bestPoint() = 0; advance(1) = 1
            status(2) = 10; bestPoint() = 0
            """);
        check("Promise 28: the last second of the clock", "addPoint(60) = 0; addSpan(99999, 99999, false) = 0\n" + LATE + """
            advance(339) = 0; command(0) = 1; command(1) = 3; ifRecycled(0) = 99999; bestPoint() = 0; advance(1) = 3
            ifRecycled(0) = 100000; bestPoint() = -1
            """);
    }

    private static void ifAdvanced() {
        check("Promise 29: seconds 1 to 600", """
            ifAdvanced(0, 1) = throws IllegalArgumentException; ifAdvanced(-1, 1) = throws IllegalArgumentException
            ifAdvanced(LEAST, 1) = throws IllegalArgumentException; ifAdvanced(601, 1) = throws IllegalArgumentException
            ifAdvanced(GREATEST, 1) = throws IllegalArgumentException; ifAdvanced(1, 1) = 1; ifAdvanced(600, 1) = 600; status(1) = 0
            """);
        check("Promise 29: what is not 0 to 11", """
            ifAdvanced(1, -1) = throws IllegalArgumentException; ifAdvanced(1, LEAST) = throws IllegalArgumentException
            ifAdvanced(1, 12) = throws IllegalArgumentException; ifAdvanced(1, GREATEST) = throws IllegalArgumentException
            ifAdvanced(1, 0) = 0; ifAdvanced(1, 11) = 0
            """);
        check("Promise 29: the clock would show more than 99999", LATE + """
            ifAdvanced(399, 1) = 99999; ifAdvanced(400, 1) = throws IllegalStateException; ifAdvanced(600, 1) = throws IllegalStateException
            advance(399) = 0; ifAdvanced(1, 1) = throws IllegalStateException; status(1) = 99999
            """);
        check("Promise 29: the order of the exceptions", LATE + """
            ifAdvanced(601, 1) = throws IllegalArgumentException; ifAdvanced(400, 12) = throws IllegalArgumentException
            ifAdvanced(400, -1) = throws IllegalArgumentException; ifAdvanced(400, 11) = throws IllegalStateException
            """);
        StringBuilder run = new StringBuilder("""
            begin(4) = 60; addEvent(4, -1) = 0; addHold(3, 2) = 0; addConstraint(2, 2, 1) = 0; setLimits(2, 3) = 600; command(0) = 1
            """);
        // The count 2 is reached with the fourth second, the constraint holds in the fifth.
        int[][] due = {
            {1, 2, 1, 1, 3, 3, 3, 4}, {1, 2, 3, 4, 5, 6, 7, 8}, {3, 3, 3, 2, 2, 2, 2, 2}, {0, 0, 0, 0, 0, 1, 2, 3}};
        for (int what = 0; what < due.length; what++) {
            for (int seconds = 1; seconds <= due[what].length; seconds++) {
                run.append("ifAdvanced(" + seconds + ", " + what + ") = " + due[what][seconds - 1] + "\n");
            }
        }
        check("Promise 29: nothing is changed, in whatever phase it would be", run + """
            ifAdvanced(2, 5) = 1; ifAdvanced(5, 6) = 0; ifAdvanced(8, 7) = 5; ifAdvanced(8, 9) = 1; ifAdvanced(8, 10) = 1
            status(0) = 1; status(1) = 0; status(2) = 4; status(3) = 0; status(7) = 0; status(9) = 0; status(10) = 0; advance(8) = 4
            log(0, 0) = 7
            """);
        check("Promise 29: nor what is saved", """
            save(0) = 0; save(1) = 0; save(2) = 0; command(0) = 1; ifAdvanced(600, 0) = 3; restore(0) = 0; status(0) = 0; restore(1) = 0
            status(1) = 0; restore(2) = 0; status(2) = 60
            """);
    }

    private static void log() {
        check("Promise 30: there is no such entry", """
            log(0, 0) = throws IndexOutOfBoundsException; command(3) = 4; log(0, 0) = 0; log(-1, 0) = throws IndexOutOfBoundsException
            log(LEAST, 0) = throws IndexOutOfBoundsException; log(1, 0) = throws IndexOutOfBoundsException
            log(GREATEST, 0) = throws IndexOutOfBoundsException
            """);
        check("Promise 30: what is not 0 to 2", """
            command(3) = 4; log(0, -1) = throws IllegalArgumentException; log(0, LEAST) = throws IllegalArgumentException
            log(0, 3) = throws IllegalArgumentException; log(0, GREATEST) = throws IllegalArgumentException; log(0, 0) = 0; log(0, 2) = 0
            """);
        check("Promise 30: the order of the exceptions", """
            log(0, 3) = throws IndexOutOfBoundsException; log(-1, -1) = throws IndexOutOfBoundsException; command(3) = 4
            log(1, 3) = throws IndexOutOfBoundsException; log(0, 3) = throws IllegalArgumentException
            """);
        StringBuilder run = new StringBuilder("addPoint(60) = 0; command(0) = 1\n");
        for (int i = 0; i < 50; i++) {
            run.append("command(1) = 3; advance(1) = 3; command(2) = 1\n");
            int last = Math.min(24, 2 * i + 2) - 1;
            run.append("log(0, 0) = " + (i + 1) + "; log(0, 1) = 4; log(0, 2) = " + (i + 1) + "; log(1, 0) = " + i + "; log(1, 1) = 3\n");
            run.append("log(" + last + ", 0) = " + (i - last / 2) + "; log(" + last + ", 2) = 10; status(7) = " + (last + 1) + "\n");
            run.append("log(" + (last + 1) + ", 0) = throws IndexOutOfBoundsException\n");
        }
        check("Promise 30: the latest one first, however often the oldest one went", run.toString());
    }

    private static void holdShare() {
        check("Promise 31: 0.0 if no second has passed since the start", """
            advance(9) = 0; command(0) = 1; holdShare() = 0.0; command(1) = 3; holdShare() = 0.0; advance(1) = 3; holdShare() = 1.0
            """);
        check("Promise 31: 0.0 if it was not started", "advance(9) = 0; holdShare() = 0.0; command(3) = 4; advance(9) = 4; holdShare() = 0.0");
        check("Promise 31: the seconds since the start, not those before", """
            advance(10) = 0; command(0) = 1; advance(3) = 1; command(1) = 3; advance(1) = 3; holdShare() = 0.25; command(2) = 1
            advance(4) = 1; holdShare() = 0.125
            """);
        check("Promise 31: a recycle is no start", """
            addPoint(60) = 0; command(0) = 1; advance(3) = 1; command(1) = 3; advance(1) = 3; recycle(0) = 57; holdShare() = 0.25
            """);
        check("Promise 31: the second that scrubs by the budget is a second of the hold", """
            setLimits(0, 0) = 600; command(0) = 1; advance(1) = 1; command(1) = 3; advance(1) = 4; holdShare() = 0.5
            """);
    }

    private static void digest() {
        long hash = 1913;
        int[] values = {0, 0, 60, 0, 0, 0, -1, 0, 60, 0, 0, 0, 0, 0, 0, 0, 0, 0, 60, -1, -1, -1, 0};
        for (int value : values) {
            hash = 31 * hash + value;
        }
        check("Promise 32: a new object has no event, constraint, point, entry or character", "digest() = " + hash);
        hash = 1913;
        int[] scrubbed = {4, 0, 60, 0, 0, 0, -1, 1, 60, 0, 0, 0, 1, 0, 1, 1, 1, 1, -1, 1, 1, 2, 1, -1, -1, -1, -1, -1, 0, 6, 0, 2, 115, 59};
        for (int value : scrubbed) {
            hash = 31 * hash + value;
        }
        check("Promise 32: one of each sort", """
            addConstraint(60, 0, 1) = 0; vote(0, 0, 1) = 0; vote(0, 1, 1) = 0; vote(0, 2, 2) = 0; addEvent(5, 0) = 0; addPoint(60) = 0
            addSpan(0, 99, false) = 0; addSpan(0, 9, true) = 0; command(3) = 4
            text s;
            """ + "digest() = " + hash);
        LaunchCountdown x = new LaunchCountdown();
        long before = x.digest();
        Runs.due("Promise 32: nothing is changed by it", x.digest(), before);
        x.append('s');
        Runs.due("Promise 32: the buffer counts", x.digest() == before, false);
        x.clearBuffer();
        Runs.due("Promise 32: what is cleared does not", x.digest(), before);
    }
}
