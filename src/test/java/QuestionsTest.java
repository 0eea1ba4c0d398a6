/** Promises 20 to 32: the questions. */
public final class QuestionsTest {
    public static void main(String[] args) {
        status();
        items();
        constraint();
        expected();
        liftoff();
        slack();
        isOpen();
        ifRecycled();
        bestPoint();
        ifAdvanced();
        log();
        holdShare();
        digest();
        Runs.end();
    }

    private static void status() {
        Runs.check("Promise 20: what is out of range", """
            status(-1) = throws IllegalArgumentException; status(12) = throws IllegalArgumentException
            status(2147483647) = throws IllegalArgumentException
            """);
        Runs.check("Promise 20", """
            begin(30) = 60; addHold(28, 10) = 0; addHold(27, 1) = 1; addEvent(28, -1) = 0; addEvent(30, -1) = 1
            addPoint(30) = 0; advance(2) = 0; status(1) = 2; status(11) = 0; command(0) = 1; status(11) = 1
            advance(6) = 2; status(0) = 2; status(1) = 8; status(2) = 28; status(5) = 6; status(6) = -1; status(7) = 2
            status(8) = 30; status(9) = 1; status(10) = 1; advance(8) = 1; status(5) = 0; status(9) = 2; status(10) = 2
            command(1) = 3; status(6) = 10; advance(4) = 3; status(3) = 4; recycle(0) = 27; status(4) = 1; status(11) = 2
            status(9) = 0; status(10) = 0; status(2) = 30; status(6) = 10; command(2) = 1; status(6) = -1; status(3) = 4
            """);
        Runs.check("Promise 20: behind a scrub", """
            begin(5) = 60; addEvent(5, -1) = 0; addHold(4, 9) = 0; command(0) = 1; advance(3) = 2; status(5) = 7; command(3) = 4
            status(5) = 0; status(6) = -1; status(9) = 1; status(10) = 1; status(11) = 1; status(2) = 4; advance(2) = 4
            status(1) = 5; status(2) = 4
            """);
    }

    private static void items() {
        Runs.check("Promise 21", """
            items(-1) = throws IllegalArgumentException; items(6) = throws IllegalArgumentException
            addEvent(1, -1) = 0; items(0) = 1; addHold(1, 1) = 0; addHold(2, 1) = 1; items(1) = 2
            addPoint(1) = 0; addPoint(1) = 1; addPoint(1) = 2; items(2) = 3
            addConstraint(1, 1, 1) = 0; addConstraint(1, 1, 1) = 1; addConstraint(1, 1, 1) = 2
            addConstraint(1, 1, 1) = 3; items(3) = 4; addSpan(1, 1, false) = 0; items(4) = 1; items(5) = 0
            addSpan(1, 1, true) = 0; addSpan(1, 1, true) = 1; items(5) = 2; items(4) = 1
            """);
    }

    private static void constraint() {
        Runs.check("Promise 22: wrong arguments", """
            constraint(0, 0) = throws IndexOutOfBoundsException; constraint(0, 4) = throws IndexOutOfBoundsException
            addConstraint(9, 5, 1) = 0; constraint(-1, 0) = throws IndexOutOfBoundsException
            constraint(1, 0) = throws IndexOutOfBoundsException; constraint(1, 4) = throws IndexOutOfBoundsException
            constraint(0, 4) = throws IllegalArgumentException; constraint(0, -1) = throws IllegalArgumentException
            """);
        Runs.check("Promise 22: active from a count down to another", """
            begin(10) = 60; addConstraint(9, 8, 1) = 0; constraint(0, 1) = 0; vote(0, 2, 1) = 0; command(0) = 1
            advance(1) = 1; constraint(0, 1) = 1; advance(1) = 1; constraint(0, 1) = 1; advance(1) = 1; constraint(0, 1) = 0
            """);
        Runs.check("Promise 22: go", """
            addConstraint(9, 5, 3) = 0; addConstraint(9, 5, 1) = 1; vote(0, 0, 1) = 0; vote(0, 1, 1) = 0
            constraint(0, 0) = 0; vote(0, 2, 1) = 0; constraint(0, 0) = 1; vote(0, 3, 2) = 0; vote(0, 4, 2) = 0
            constraint(0, 0) = 1; constraint(0, 2) = 3; constraint(0, 3) = 2; constraint(1, 0) = 0; vote(1, 0, 1) = 0
            constraint(1, 0) = 1; vote(1, 1, 2) = 0; constraint(1, 0) = 0; vote(1, 1, 0) = 2; constraint(1, 0) = 1
            """);
        Runs.check("Promise 22: the quorum 5", """
            addConstraint(9, 5, 5) = 0; vote(0, 0, 1) = 0; vote(0, 1, 1) = 0; vote(0, 2, 1) = 0; vote(0, 3, 1) = 0
            constraint(0, 0) = 0; vote(0, 4, 1) = 0; constraint(0, 0) = 1; constraint(0, 2) = 5
            """);
    }

    private static void expected() {
        Runs.check("Promise 23: wrong arguments", """
            expected(0) = throws IndexOutOfBoundsException; addEvent(1, -1) = 0
            expected(1) = throws IndexOutOfBoundsException; expected(-1) = throws IndexOutOfBoundsException
            """);
        Runs.check("Promise 23: holds down to the event's count", """
            begin(20) = 60; addHold(20, 3) = 0; addHold(10, 5) = 1; addHold(9, 7) = 2; addEvent(20, -1) = 0
            addEvent(11, -1) = 1; addEvent(10, -1) = 2; addEvent(9, -1) = 3; addEvent(0, -1) = 4; expected(0) = 3
            expected(1) = 12; expected(2) = 18; expected(3) = 26; expected(4) = 35; advance(10) = 0; expected(0) = 13
            command(0) = 1; expected(0) = 13; expected(4) = 45; advance(1) = 2; expected(0) = 13; expected(2) = 28
            advance(3) = 1; expected(0) = -1; expected(1) = 22; status(9) = 1; command(1) = 3; advance(4) = 3
            expected(1) = 26; expected(0) = -1
            """);
        Runs.check("Promise 23: in holds at the present count", """
            begin(5) = 60; addConstraint(5, 5, 1) = 0; addEvent(5, -1) = 0; addHold(5, 4) = 0; command(0) = 1; advance(2) = 2
            expected(0) = 4; advance(3) = 3; expected(0) = 5; advance(2) = 3; expected(0) = 7; status(1) = 7
            """);
        Runs.check("Promise 23: behind a recycle, and above the count", """
            begin(5) = 60; addEvent(5, -1) = 0; addEvent(2, -1) = 1; addPoint(4) = 0; command(0) = 1; advance(4) = 1
            command(1) = 3; expected(0) = -1; expected(1) = -1; recycle(0) = 1; expected(0) = -1; expected(1) = 6
            command(3) = 4; expected(1) = -1
            """);
        Runs.check("Promise 23: behind liftoff", """
            begin(1) = 60; addSpan(0, 9, false) = 0; addEvent(1, -1) = 0; command(0) = 1; advance(2) = 5; expected(0) = -1
            """);
    }

    private static void liftoff() {
        Runs.check("Promise 24: phases 0 to 3", """
            begin(10) = 60; liftoff() = 10; addHold(10, 2) = 0; addHold(5, 4) = 1; addHold(0, 1) = 2; liftoff() = 17
            advance(3) = 0; liftoff() = 20; command(0) = 1; liftoff() = 20; advance(1) = 2; liftoff() = 20
            advance(1) = 1; liftoff() = 20; command(1) = 3; liftoff() = 20; advance(10) = 3; liftoff() = 30
            command(2) = 1; advance(7) = 2; status(5) = 2; liftoff() = 30; advance(2) = 1; liftoff() = 30
            """);
        Runs.check("Promise 24: phases 4 and 5", """
            begin(2) = 60; addSpan(5, 9, false) = 0; command(0) = 1; advance(5) = 3; liftoff() = 5; command(2) = 1
            advance(1) = 5; liftoff() = 5; advance(100) = 5; liftoff() = 5; begin(2) = 2; command(3) = 4; liftoff() = -1
            advance(5) = 4; liftoff() = -1
            """);
        Runs.check("Promise 24: a hold at the present count that has not taken place", """
            begin(9) = 60; addHold(8, 3) = 0; command(0) = 1; advance(1) = 1; command(1) = 3; liftoff() = 12; command(2) = 1
            advance(1) = 2; liftoff() = 12
            """);
        Runs.check("Promise 24: behind a recycle the holds take place again", """
            begin(9) = 60; addHold(8, 3) = 0; addHold(9, 5) = 1; addPoint(8) = 0; command(0) = 1; advance(10) = 1
            command(1) = 3; status(2) = 7; liftoff() = 17; recycle(0) = 7; liftoff() = 21
            """);
    }

    private static void slack() {
        Runs.check("Promise 25: no window, or only before", """
            slack(false) = -1; slack(true) = -1; addSpan(0, 59, false) = 0; slack(false) = -1; slack(true) = -1
            """);
        Runs.check("Promise 25: the expected second alone", """
            addSpan(60, 60, false) = 0; slack(false) = 0; slack(true) = 0; addSpan(60, 60, true) = 0; slack(false) = -1
            slack(true) = -1
            """);
        Runs.check("Promise 25: windows and cutouts that overlap", """
            begin(10) = 60; addSpan(5, 20, false) = 0; addSpan(18, 30, false) = 1; slack(false) = 0; slack(true) = 20
            addSpan(0, 12, true) = 0; slack(false) = 3; addSpan(11, 15, true) = 1; slack(false) = 6
            addSpan(29, 99, true) = 2; slack(true) = 18; addSpan(25, 28, true) = 3; slack(true) = 14
            addSpan(100, 101, false) = 2; slack(true) = 91; slack(false) = 6; addSpan(16, 24, true) = 4
            slack(false) = 90; slack(true) = 91; addSpan(0, 99999, true) = 5; slack(false) = -1; slack(true) = -1
            """);
        Runs.check("Promise 25: a cutout at the end of the window", """
            addSpan(40, 90, false) = 0; addSpan(80, 95, true) = 0; slack(true) = 19; slack(false) = 0
            addSpan(0, 5, true) = 1; slack(true) = 19; addSpan(60, 60, true) = 2; slack(false) = 1; slack(true) = 19
            """);
        Runs.check("Promise 25: the last second", """
            addSpan(99999, 99999, false) = 0; slack(false) = 99939; slack(true) = 99939; advance(60) = 0; slack(true) = 99879
            """);
        Runs.check("Promise 25: in the phases", """
            begin(3) = 60; addSpan(2, 9, false) = 0; addSpan(0, 2, true) = 0; addHold(3, 2) = 0; slack(false) = 0
            slack(true) = 4; command(0) = 1; slack(true) = 4; advance(1) = 2; slack(true) = 4; advance(1) = 1; command(1) = 3
            advance(3) = 3; slack(false) = 0; slack(true) = 1; advance(2) = 3; slack(true) = -1; save(0) = 7; command(3) = 4
            slack(false) = -1; slack(true) = -1; restore(0) = 7; addSpan(0, 99, false) = 1; command(2) = 1; advance(9) = 5
            slack(false) = -1; slack(true) = -1
            """);
        LaunchCountdown x = new LaunchCountdown();
        x.begin(3600);
        x.addSpan(0, 99999, false);
        for (int i = 0; i < 166; i++) {
            x.advance(600);
        }
        Runs.due("Promise 25: an expected liftoff behind the last second", x.liftoff(), 103200);
        Runs.due("Promise 25: none is open there", x.slack(false), -1);
        Runs.due("Promise 25: none is open there", x.slack(true), -1);
    }

    private static void isOpen() {
        Runs.check("Promise 26", """
            isOpen(-1) = throws IllegalArgumentException; isOpen(100000) = throws IllegalArgumentException
            isOpen(0) = false; isOpen(99999) = false; addSpan(5, 9, false) = 0; isOpen(4) = false; isOpen(5) = true
            isOpen(9) = true; isOpen(10) = false; addSpan(9, 12, false) = 1; isOpen(9) = true; isOpen(12) = true
            addSpan(6, 7, true) = 0; isOpen(5) = true; isOpen(6) = false; isOpen(7) = false; isOpen(8) = true
            addSpan(0, 99999, false) = 2; isOpen(0) = true; isOpen(99999) = true; isOpen(7) = false; command(3) = 4
            isOpen(5) = true; isOpen(6) = false
            """);
    }

    private static void ifRecycled() {
        Runs.check("Promise 27: wrong arguments", """
            ifRecycled(0) = throws IndexOutOfBoundsException; addPoint(9) = 0; ifRecycled(0) = -1
            ifRecycled(1) = throws IndexOutOfBoundsException; ifRecycled(-1) = throws IndexOutOfBoundsException
            """);
        Runs.check("Promise 27", """
            begin(20) = 60; addPoint(20) = 0; addPoint(15) = 1; addPoint(14) = 2; addHold(20, 3) = 0; addHold(15, 5) = 1
            addHold(2, 7) = 2; setLimits(100, 0) = 600; advance(1) = 0; ifRecycled(0) = -1; command(0) = 1
            ifRecycled(0) = 36; ifRecycled(1) = -1; advance(2) = 2; ifRecycled(0) = 38; advance(7) = 2; status(2) = 15
            ifRecycled(0) = 45; ifRecycled(1) = 37; ifRecycled(2) = -1; status(5) = 4; advance(4) = 1; command(1) = 3
            advance(10) = 3; ifRecycled(0) = 59; ifRecycled(1) = 51; ifRecycled(2) = -1; command(2) = 1; advance(1) = 1
            ifRecycled(2) = 46; setLimits(100, 9) = 100; command(1) = 3; recycle(2) = 14; liftoff() = 46
            ifRecycled(2) = 46; command(3) = 4; ifRecycled(0) = -1
            """);
        Runs.check("Promise 27: holds at the count 0 and at the point's count", """
            begin(9) = 60; addPoint(9) = 0; addHold(0, 3) = 0; addHold(9, 4) = 1; command(0) = 1; ifRecycled(0) = 16
            """);
        Runs.check("Promise 27: behind liftoff", """
            begin(1) = 60; addPoint(1) = 0; addSpan(0, 9, false) = 0; command(0) = 1; advance(2) = 5; ifRecycled(0) = -1
            """);
    }

    private static void bestPoint() {
        Runs.check("Promise 28: none", """
            bestPoint() = -1; addPoint(60) = 0; addSpan(0, 999, false) = 0; bestPoint() = -1; command(0) = 1; bestPoint() = 0
            command(3) = 4; bestPoint() = -1
            """);
        Runs.check("Promise 28: no point has an open second", """
            addPoint(60) = 0; addSpan(0, 59, false) = 0; command(0) = 1; bestPoint() = -1; addSpan(0, 60, false) = 1
            bestPoint() = 0; advance(1) = 1; bestPoint() = -1
            """);
        Runs.check("Promise 28: the earliest open second", """
            begin(20) = 60; addPoint(20) = 0; addPoint(12) = 1; addPoint(10) = 2; addPoint(9) = 3; command(0) = 1
            advance(10) = 1; addSpan(22, 22, false) = 0; bestPoint() = 2; addSpan(21, 22, false) = 1; bestPoint() = 2
            addSpan(30, 30, false) = 2; bestPoint() = 2; addSpan(20, 29, true) = 0; bestPoint() = 2
            advance(1) = 1; bestPoint() = 3
            """);
        Runs.check("Promise 28: the least count, then the lowest number", """
            begin(20) = 60; addPoint(20) = 0; addPoint(12) = 1; addPoint(15) = 2; addPoint(12) = 3; command(0) = 1
            advance(10) = 1; addSpan(50, 60, false) = 0; bestPoint() = 1
            """);
        Runs.check("Promise 28: cutouts, and recycles that the limits forbid", """
            begin(9) = 60; addPoint(9) = 0; addPoint(3) = 1; addHold(9, 2) = 0; command(0) = 1; advance(10) = 1; command(1) = 3
            addSpan(0, 99, false) = 0; addSpan(11, 18, true) = 0; status(2) = 1; bestPoint() = 1; setLimits(9, 0) = 600
            bestPoint() = 1
            """);
        Runs.check("Promise 28: of equal points the lowest number", """
            addPoint(60) = 0; addPoint(60) = 1; addSpan(0, 999, false) = 0; command(0) = 1; bestPoint() = 0
            """);
    }

    private static void ifAdvanced() {
        Runs.check("Promise 29: wrong arguments", """
            ifAdvanced(0, 0) = throws IllegalArgumentException; ifAdvanced(601, 0) = throws IllegalArgumentException
            ifAdvanced(1, -1) = throws IllegalArgumentException; ifAdvanced(1, 12) = throws IllegalArgumentException
            ifAdvanced(600, 1) = 600; ifAdvanced(1, 0) = 0; status(1) = 0
            """);
        Runs.check("Promise 29: the numbers after advance", """
            begin(5) = 60; addEvent(5, -1) = 0; addEvent(4, -1) = 1; addHold(3, 4) = 0; addConstraint(2, 2, 1) = 0
            setLimits(3, 3) = 600; command(0) = 1; ifAdvanced(3, 0) = 2; ifAdvanced(3, 1) = 3; ifAdvanced(3, 2) = 3
            ifAdvanced(3, 5) = 3; ifAdvanced(3, 9) = 2; ifAdvanced(3, 10) = 1; ifAdvanced(3, 7) = 3; ifAdvanced(3, 8) = 5
            ifAdvanced(3, 11) = 1; ifAdvanced(8, 6) = 0; ifAdvanced(8, 0) = 3; ifAdvanced(10, 3) = 2; ifAdvanced(12, 0) = 4
            ifAdvanced(600, 3) = 4; status(0) = 1; status(1) = 0; status(2) = 5; status(7) = 0; status(9) = 0
            """);
        Runs.check("Promise 29: what is saved stays, too", """
            command(0) = 1; save(0) = 0; save(1) = 0; save(2) = 0; ifAdvanced(60, 2) = 0; restore(0) = 0; status(2) = 60
            restore(1) = 0; status(2) = 60; restore(2) = 0; status(2) = 60; command(1) = 3; recycle(0) = throws IndexOutOfBoundsException
            ifAdvanced(5, 4) = 0; ifAdvanced(5, 6) = 10
            """);
        LaunchCountdown x = new LaunchCountdown();
        x.addEvent(60, -1);
        x.addHold(58, 5);
        long before = x.digest();
        Runs.due("Promise 29: before the start", x.ifAdvanced(600, 2), 60);
        Runs.due("Promise 29: nothing is changed", x.digest(), before);
        for (int i = 0; i < 166; i++) {
            x.advance(600);
        }
        Runs.due("Promise 29: the last second", x.ifAdvanced(399, 1), 99999);
        Runs.due("Promise 29: behind it", Runs.answer(x, "ifAdvanced", 400, 1), "throws IllegalStateException");
        Runs.due("Promise 29: the argument first", Runs.answer(x, "ifAdvanced", 400, 12),
                "throws IllegalArgumentException");
    }

    private static void log() {
        Runs.check("Promise 30: wrong arguments", """
            log(0, 0) = throws IndexOutOfBoundsException; log(0, 3) = throws IndexOutOfBoundsException; command(3) = 4
            log(0, 0) = 0; log(0, 1) = 6; log(0, 2) = 0; log(0, 3) = throws IllegalArgumentException
            log(0, -1) = throws IllegalArgumentException; log(1, 0) = throws IndexOutOfBoundsException
            log(-1, 0) = throws IndexOutOfBoundsException; log(1, 3) = throws IndexOutOfBoundsException
            """);
        Runs.check("Promise 30: every kind", """
            begin(3) = 60; addEvent(3, -1) = 0; addHold(2, 2) = 0; addPoint(3) = 0; addPoint(2) = 1; addSpan(0, 99, false) = 0
            command(0) = 1; advance(3) = 1; command(1) = 3; advance(2) = 3; recycle(1) = 2; command(2) = 1; advance(9) = 5
            status(7) = 9; log(8, 0) = 0; log(8, 1) = 0; log(8, 2) = 0; log(7, 0) = 1; log(7, 1) = 1; log(7, 2) = 0
            log(6, 0) = 2; log(6, 1) = 2; log(6, 2) = 0; log(5, 0) = 3; log(5, 1) = 3; log(5, 2) = 10
            log(4, 0) = 5; log(4, 1) = 5; log(4, 2) = 1; log(3, 0) = 5; log(3, 1) = 4; log(3, 2) = 2
            log(2, 0) = 5; log(2, 1) = 1; log(1, 0) = 6; log(1, 1) = 2; log(0, 0) = 9; log(0, 1) = 7; log(0, 2) = 0
            """);
        LaunchCountdown x = new LaunchCountdown();
        x.command(0);
        for (int i = 0; i < 20; i++) {
            x.advance(1);
            x.command(1);
            x.command(2);
        }
        Runs.due("Promise 30: 24 are kept", x.status(7), 24);
        for (int entry = 0; entry < 24; entry++) {
            Runs.due("Promise 30: the second of " + entry, x.log(entry, 0), 20 - entry / 2);
            Runs.due("Promise 30: the kind of " + entry, x.log(entry, 1), entry % 2 == 0 ? 4 : 3);
        }
        Runs.due("Promise 30: entry 24", Runs.answer(x, "log", 24, 0), "throws IndexOutOfBoundsException");
    }

    private static void holdShare() {
        Runs.check("Promise 31", """
            holdShare() = 0.0; advance(5) = 0; holdShare() = 0.0; command(0) = 1; holdShare() = 0.0; advance(2) = 1
            holdShare() = 0.0; command(1) = 3; advance(1) = 3; holdShare() = 0.3333333333333333; advance(1) = 3
            holdShare() = 0.5; command(3) = 4; holdShare() = 0.5; advance(4) = 4; holdShare() = 0.25
            """);
        Runs.check("Promise 31: scrubbed before the start", """
            advance(5) = 0; command(3) = 4; advance(5) = 4; holdShare() = 0.0
            """);
        Runs.check("Promise 31: a hold of all seconds", """
            command(0) = 1; command(1) = 3; holdShare() = 0.0; advance(1) = 3; holdShare() = 1.0; advance(6) = 3; holdShare() = 1.0; command(2) = 1; advance(7) = 1
            holdShare() = 0.5
            """);
    }

    private static void digest() {
        Runs.check("Promise 32: a run of the shared test", """
            addHold(5, 3) = 0; command(0) = 1; addSpan(0, 5, false) = 0; digest() = 7509471295995342686
            """);
        LaunchCountdown x = new LaunchCountdown();
        Runs.due("Promise 32: a new object", x.digest(), Listed.digest(x));
        x.begin(30);
        x.addConstraint(20, 10, 2);
        x.addConstraint(30, 0, 1);
        x.vote(1, 3, 1);
        x.addEvent(25, -1);
        x.addEvent(20, 0);
        x.addHold(28, 3);
        x.addPoint(30);
        x.addPoint(22);
        x.addSpan(20, 90, false);
        x.addSpan(40, 45, true);
        x.command(0);
        for (int i = 0; i < 20; i++) {
            x.append('!' + i);
            x.advance(1);
            Runs.due("Promise 32: second " + i, x.digest(), Listed.digest(x));
        }
        x.recycle(0);
        Runs.due("Promise 32: behind a recycle", x.digest(), Listed.digest(x));
        x.command(3);
        Runs.due("Promise 32: behind a scrub", x.digest(), Listed.digest(x));
    }

    /** The hash of the document's list, from the answers of the other calls; the buffer is known by the run. */
    private static final class Listed {
        private static long hash;

        static long digest(LaunchCountdown x) {
            hash = 1913;
            for (int what = 0; what <= 11; what++) {
                add(x.status(what));
            }
            for (int sort = 0; sort <= 5; sort++) {
                add(x.items(sort));
            }
            for (int event = 0; event < x.items(0); event++) {
                add(x.expected(event));
            }
            for (int number = 0; number < x.items(3); number++) {
                for (int what = 0; what <= 3; what++) {
                    add(x.constraint(number, what));
                }
            }
            add(x.liftoff());
            add(x.slack(false));
            add(x.slack(true));
            for (int point = 0; point < x.items(2); point++) {
                add(x.ifRecycled(point));
            }
            add(x.bestPoint());
            for (int entry = 0; entry < x.status(7); entry++) {
                for (int what = 0; what <= 2; what++) {
                    add(x.log(entry, what));
                }
            }
            int length = x.status(0) == 0 ? 0 : Math.min(20, x.status(1));
            add(length);
            for (int i = 0; i < length; i++) {
                add('!' + i);
            }
            return hash;
        }

        private static void add(int value) {
            hash = 31 * hash + value;
        }
    }
}
