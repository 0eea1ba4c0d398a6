/** Promises 10 to 15: the commands, and what happens in a second. */
public final class CommandsTest {
    public static void main(String[] args) {
        command();
        recycle();
        advance();
        seconds();
        run();
        save();
        restore();
        Runs.end();
    }

    private static void command() {
        Runs.check("Promise 10: what is out of range", """
            command(-1) = throws IllegalArgumentException; command(4) = throws IllegalArgumentException
            command(3) = 4; command(4) = throws IllegalArgumentException
            """);
        Runs.check("Promise 10: phase 0", """
            command(1) = throws IllegalStateException; command(2) = throws IllegalStateException
            advance(5) = 0; command(0) = 1; status(11) = 1; status(7) = 0; status(1) = 5; status(2) = 60
            """);
        Runs.check("Promise 10: phase 1", """
            command(0) = 1; command(0) = throws IllegalStateException; command(2) = throws IllegalStateException
            advance(3) = 1; command(1) = 3; status(6) = 10; status(2) = 57
            log(0, 0) = 3; log(0, 1) = 3; log(0, 2) = 10
            """);
        Runs.check("Promise 10: phase 2", """
            begin(9) = 60; addHold(9, 5) = 0; command(0) = 1; advance(1) = 2; command(0) = throws IllegalStateException
            command(1) = throws IllegalStateException; command(2) = throws IllegalStateException; command(3) = 4
            status(5) = 0; log(0, 1) = 6; log(0, 2) = 0; log(0, 0) = 1
            """);
        Runs.check("Promise 10: phase 3", """
            command(0) = 1; command(1) = 3; command(0) = throws IllegalStateException
            command(1) = throws IllegalStateException; advance(4) = 3; command(2) = 1; status(6) = -1
            log(0, 0) = 4; log(0, 1) = 4; log(0, 2) = 4; command(1) = 3; command(3) = 4; status(6) = -1
            log(0, 1) = 6; log(0, 2) = 0; log(1, 1) = 3
            """);
        Runs.check("Promise 10: phases 4 and 5", """
            command(3) = 4; command(0) = throws IllegalStateException; command(1) = throws IllegalStateException
            command(2) = throws IllegalStateException; command(3) = throws IllegalStateException; status(11) = 0
            begin(1) = 60; addSpan(0, 9, false) = 0; command(0) = 1; advance(2) = 5
            command(0) = throws IllegalStateException; command(1) = throws IllegalStateException
            command(2) = throws IllegalStateException; command(3) = throws IllegalStateException; status(0) = 5
            """);
        Runs.check("Promise 10: resume looks at each active constraint alone", """
            begin(9) = 60; addConstraint(9, 8, 1) = 0; addConstraint(8, 8, 1) = 1; addConstraint(7, 0, 1) = 2
            vote(0, 0, 1) = 0; command(0) = 1; advance(2) = 3; status(6) = 1; status(2) = 8
            command(2) = throws IllegalStateException; vote(1, 0, 1) = 0; vote(0, 0, 0) = 1
            command(2) = throws IllegalStateException; vote(0, 3, 1) = 0; command(2) = 1; advance(2) = 3
            status(6) = 2; status(2) = 7
            """);
    }

    private static void recycle() {
        Runs.check("Promise 11: the point and the phase", """
            recycle(0) = throws IndexOutOfBoundsException; addPoint(60) = 0
            recycle(-1) = throws IndexOutOfBoundsException; recycle(1) = throws IndexOutOfBoundsException
            recycle(0) = throws IllegalStateException; command(0) = 1; recycle(0) = throws IllegalStateException
            command(3) = 4; recycle(0) = throws IllegalStateException; recycle(1) = throws IndexOutOfBoundsException
            """);
        Runs.check("Promise 11: not in a built-in hold", """
            addPoint(60) = 0; addHold(60, 2) = 0; command(0) = 1; advance(1) = 2; recycle(0) = throws IllegalStateException
            """);
        Runs.check("Promise 11: the counts", """
            begin(20) = 60; addPoint(9) = 0; addPoint(10) = 1; addPoint(20) = 2; command(0) = 1; advance(10) = 1
            command(1) = 3; recycle(0) = throws IllegalStateException; recycle(1) = 10; status(2) = 10; recycle(2) = 10
            status(2) = 20; status(0) = 3; status(6) = 10; status(4) = 2; status(11) = 3
            log(0, 0) = 10; log(0, 1) = 5; log(0, 2) = 2; log(1, 2) = 1; recycle(1) = throws IllegalStateException
            """);
        Runs.check("Promise 11: a new pass", """
            begin(5) = 60; addPoint(5) = 0; addHold(5, 2) = 0; addHold(4, 1) = 1; addEvent(5, -1) = 0; addEvent(4, -1) = 1
            command(0) = 1; advance(5) = 1; status(9) = 2; status(10) = 2; command(1) = 3; recycle(0) = 3
            status(9) = 0; status(10) = 0; status(11) = 2; command(2) = 1; advance(1) = 2; status(10) = 1; run() = 1
            run() = 1; status(9) = 1
            """);
        Runs.check("Promise 11: the greatest number", """
            addPoint(60) = 0; setLimits(5, 9) = 600; command(0) = 1; command(1) = 3; recycle(0) = 60; recycle(0) = 60
            setLimits(5, 2) = 5; recycle(0) = throws IllegalStateException; setLimits(5, 3) = 5; recycle(0) = 60
            recycle(0) = throws IllegalStateException; status(4) = 3; setLimits(5, 0) = 5
            recycle(0) = throws IllegalStateException
            """);
    }

    private static void advance() {
        Runs.check("Promise 12: seconds out of range", """
            advance(0) = throws IllegalArgumentException; advance(-1) = throws IllegalArgumentException
            advance(601) = throws IllegalArgumentException; advance(2147483647) = throws IllegalArgumentException
            advance(1) = 0; advance(600) = 0; status(1) = 601; status(2) = 60
            """);
        LaunchCountdown x = new LaunchCountdown();
        for (int i = 0; i < 166; i++) {
            x.advance(600);
        }
        Runs.due("Promise 12: the clock", x.status(1), 99600);
        Object[] tooMany = {400};
        Object[] outOfRange = {601};
        Runs.due("Promise 12: 100000", Runs.answer(x, "advance", tooMany), "throws IllegalStateException");
        Runs.due("Promise 12: 601", Runs.answer(x, "advance", outOfRange), "throws IllegalArgumentException");
        Runs.due("Promise 12: the clock stays", x.status(1), 99600);
        Runs.due("Promise 12: 99999", x.advance(399), 0);
        Runs.due("Promise 12: the last second", x.status(1), 99999);
        Object[] one = {1};
        Runs.due("Promise 12: behind the last second", Runs.answer(x, "advance", one), "throws IllegalStateException");
    }

    private static void seconds() {
        Runs.check("A second: a hold comes before a constraint, a constraint before an event", """
            begin(3) = 60; addHold(3, 2) = 0; addConstraint(3, 3, 1) = 0; addEvent(3, -1) = 0; command(0) = 1
            advance(1) = 2; status(5) = 1; status(7) = 1; advance(1) = 1; status(5) = 0; log(0, 0) = 1; log(0, 1) = 2
            advance(1) = 3; status(9) = 0; status(6) = 0; status(3) = 0; vote(0, 0, 1) = 0; command(2) = 1
            advance(1) = 1; status(9) = 1; status(2) = 2; status(10) = 1
            """);
        Runs.check("A second: a hold with the duration 1", """
            begin(3) = 60; addHold(3, 1) = 0; command(0) = 1; advance(1) = 1; status(2) = 3; status(7) = 2
            log(0, 0) = 0; log(0, 1) = 2; log(0, 2) = 0; log(1, 0) = 0; log(1, 1) = 1; log(1, 2) = 0
            """);
        Runs.check("A second: the lowest constraint is the reason", """
            begin(3) = 60; addConstraint(2, 1, 1) = 0; addConstraint(3, 3, 1) = 1; addConstraint(3, 0, 1) = 2
            command(0) = 1; advance(1) = 3; status(6) = 1; log(0, 2) = 1
            """);
        Runs.check("A second: events up to one whose constraint is not go", """
            begin(3) = 60; addConstraint(0, 0, 1) = 0; addEvent(3, -1) = 0; addEvent(2, -1) = 1; addEvent(3, 0) = 2
            addEvent(3, -1) = 3; command(0) = 1; advance(1) = 3; status(9) = 1; status(6) = 0; status(2) = 3
            log(1, 1) = 0; log(1, 2) = 0; log(0, 1) = 3; command(2) = 1; advance(1) = 3; status(9) = 1
            vote(0, 1, 1) = 0; command(2) = 1; advance(1) = 1; status(9) = 3; log(0, 2) = 3; log(1, 2) = 2; status(2) = 2
            """);
        Runs.check("A second: the budget", """
            begin(3) = 60; setLimits(2, 0) = 600; addConstraint(3, 3, 1) = 0; command(0) = 1; advance(1) = 3
            status(3) = 0; advance(1) = 3; status(3) = 1; advance(1) = 3; status(3) = 2; advance(1) = 4; status(3) = 3
            log(0, 0) = 3; log(0, 1) = 6; log(0, 2) = 1; advance(1) = 4; status(3) = 3; status(1) = 5; status(7) = 2
            """);
        Runs.check("A second: liftoff in an open second alone", """
            begin(2) = 60; addSpan(4, 6, false) = 0; addSpan(4, 4, true) = 0; addEvent(0, -1) = 0; command(0) = 1
            advance(2) = 1; status(2) = 0; advance(1) = 3; status(6) = 11; status(9) = 1; advance(1) = 3; command(2) = 1
            advance(1) = 3; log(0, 0) = 4; log(0, 2) = 11; status(9) = 1; command(2) = 1; advance(1) = 5
            log(0, 0) = 5; log(0, 1) = 7; log(0, 2) = 0; liftoff() = 5; status(1) = 6; status(2) = 0
            """);
        Runs.check("A second: a guarded event at 0 keeps the countdown from liftoff", """
            begin(1) = 60; addSpan(0, 9, false) = 0; addConstraint(1, 1, 1) = 0; vote(0, 0, 1) = 0; addEvent(0, 0) = 0
            command(0) = 1; advance(1) = 1; vote(0, 0, 0) = 1; advance(1) = 3; status(6) = 0; vote(0, 0, 1) = 0
            command(2) = 1; advance(1) = 5; status(9) = 1
            """);
    }

    private static void run() {
        Runs.check("Promise 13: phases 0, 4 and 5", """
            run() = throws IllegalStateException; begin(1) = 60; addSpan(0, 9, false) = 0; command(0) = 1; run() = 2
            status(0) = 5; run() = throws IllegalStateException; begin(1) = 1; command(3) = 4
            run() = throws IllegalStateException
            """);
        Runs.check("Promise 13: up to an event or another phase", """
            begin(9) = 60; addEvent(9, -1) = 0; addEvent(7, -1) = 1; addHold(5, 3) = 0; addHold(3, 1) = 1
            addConstraint(2, 2, 1) = 0; command(0) = 1; run() = 1; run() = 2; run() = 2; status(0) = 2; run() = 2
            status(0) = 1; run() = 5; status(0) = 3; status(2) = 2; run() = 600; status(0) = 3; status(3) = 600
            run() = 1; status(0) = 4
            """);
        Runs.check("Promise 13: at most 600 seconds", """
            begin(3600) = 60; command(0) = 1; run() = 600; status(2) = 3000; run() = 600; status(1) = 1200
            """);
        Runs.check("Promise 13: an event and a hold in one second", """
            begin(9) = 60; addConstraint(0, 0, 1) = 0; addEvent(8, -1) = 0; addEvent(8, 0) = 1; command(0) = 1
            run() = 2; status(0) = 3; status(9) = 1
            """);
        LaunchCountdown x = new LaunchCountdown();
        for (int i = 0; i < 165; i++) {
            x.advance(600);
        }
        x.advance(399);
        x.command(0);
        x.command(1);
        Runs.due("Promise 13: the clock", x.status(1), 99399);
        Runs.due("Promise 13: just so", x.run(), 600);
        Runs.due("Promise 13: the last second", x.status(1), 99999);
        Runs.due("Promise 13: no room", Runs.answer(x, "run"), "throws IllegalStateException");
        LaunchCountdown y = new LaunchCountdown();
        for (int i = 0; i < 165; i++) {
            y.advance(600);
        }
        y.advance(400);
        y.command(0);
        y.command(1);
        Runs.due("Promise 13: one too many", Runs.answer(y, "run"), "throws IllegalStateException");
        Runs.due("Promise 13: the clock stays", y.status(1), 99400);
    }

    private static void save() {
        Runs.check("Promise 14: slots", """
            save(-1) = throws IndexOutOfBoundsException; save(3) = throws IndexOutOfBoundsException; save(0) = 0
            advance(7) = 0; save(1) = 7; advance(1) = 0; save(2) = 8; advance(1) = 0; restore(0) = 0; status(1) = 0
            restore(2) = 8; restore(1) = 7; save(0) = 7; restore(2) = 8; restore(0) = 7
            """);
        Runs.check("Promise 14: what is saved", """
            begin(20) = 60; addPoint(20) = 0; addEvent(20, -1) = 0; addHold(20, 3) = 0; addHold(18, 4) = 1
            addConstraint(0, 0, 2) = 0; addSpan(10, 20, false) = 0; addSpan(12, 13, true) = 0; setLimits(50, 5) = 600
            vote(0, 0, 1) = 0; vote(0, 1, 2) = 0; append(115) = 1; advance(4) = 0; command(0) = 1; advance(4) = 1
            command(1) = 3; advance(2) = 3; recycle(0) = 19; command(2) = 1; advance(4) = 1; advance(2) = 2; save(1) = 16
            holdShare() = 0.16666666666666666; advance(9) = 1; command(1) = 3; advance(6) = 3; recycle(0) = 12
            vote(0, 0, 2) = 1; vote(0, 4, 1) = 0; addSpan(11, 40, false) = 1; addSpan(14, 15, true) = 1
            setLimits(2, 2) = 50; append(59) = 2; command(3) = 4; restore(1) = 16
            status(0) = 2; status(1) = 16; status(2) = 18; status(3) = 2; status(4) = 1; status(5) = 3; status(6) = -1
            status(7) = 10; status(9) = 1; status(10) = 2; status(11) = 2; items(4) = 1; items(5) = 1
            isOpen(14) = true; isOpen(12) = false; isOpen(21) = false; holdShare() = 0.16666666666666666
            log(0, 0) = 15; log(0, 1) = 1; log(0, 2) = 1; vote(0, 0, 1) = 1; vote(0, 1, 1) = 2; vote(0, 4, 1) = 0
            advance(3) = 1; log(0, 1) = 2; log(0, 2) = 1; setLimits(1, 1) = 50; clearBuffer() = 2
            """);
        Runs.check("Promise 14: the greatest number of recycles and the reason", """
            addPoint(60) = 0; setLimits(9, 1) = 600; command(0) = 1; command(1) = 3; save(0) = 0; setLimits(9, 5) = 9
            command(2) = 1; restore(0) = 0; status(6) = 10; recycle(0) = 60; recycle(0) = throws IllegalStateException
            """);
        Runs.check("Promise 14: the second of liftoff", """
            begin(1) = 60; addSpan(0, 9, false) = 0; save(1) = 0; command(0) = 1; advance(5) = 5; save(0) = 5
            restore(1) = 0; advance(2) = 0; command(0) = 1; advance(3) = 5; liftoff() = 3; restore(0) = 5; liftoff() = 1
            """);
    }

    private static void restore() {
        Runs.check("Promise 15: slots", """
            restore(-1) = throws IndexOutOfBoundsException; restore(3) = throws IndexOutOfBoundsException
            restore(0) = throws IllegalStateException; save(0) = 0; restore(1) = throws IllegalStateException
            restore(2) = throws IllegalStateException; restore(0) = 0; advance(3) = 0; restore(0) = 0; restore(0) = 0
            """);
        Runs.check("Promise 15: items that were added since", """
            begin(9) = 60; addConstraint(0, 0, 1) = 0; vote(0, 0, 1) = 0; addSpan(1, 2, false) = 0; save(0) = 0
            addEvent(9, -1) = 0; addHold(5, 2) = 0; addPoint(9) = 0; addConstraint(9, 9, 1) = 1; vote(1, 0, 1) = 0
            vote(1, 4, 2) = 0; vote(0, 0, 2) = 1; addSpan(4, 5, false) = 1; addSpan(1, 1, true) = 0; restore(0) = 0
            items(0) = 1; items(1) = 1; items(2) = 1; items(3) = 2; items(4) = 1; items(5) = 0
            constraint(1, 2) = 0; constraint(1, 3) = 0; constraint(0, 2) = 1; vote(1, 4, 0) = 0; liftoff() = 11
            """);
        Runs.check("Promise 15: events and holds that were added since have not taken place", """
            begin(9) = 60; save(0) = 0; command(0) = 1; advance(3) = 1; save(1) = 3; restore(0) = 0; addEvent(6, -1) = 0
            addEvent(9, -1) = 1; addHold(6, 2) = 0; command(0) = 1; advance(9) = 1; status(9) = 2; status(10) = 1
            restore(1) = 3; status(9) = 0; status(10) = 0; expected(0) = 5; expected(1) = -1; liftoff() = 11
            advance(1) = 2; advance(2) = 1; status(9) = 1
            """);
        Runs.check("Promise 15: states that have nothing in common", """
            begin(9) = 60; addHold(9, 4) = 0; addHold(8, 5) = 1; save(0) = 0; addSpan(10, 20, false) = 0
            addSpan(12, 13, true) = 0; advance(2) = 0; command(0) = 1; advance(6) = 2; save(1) = 8; restore(0) = 0
            addSpan(30, 40, false) = 0; addSpan(35, 36, true) = 0; advance(30) = 0; command(0) = 1; command(1) = 3
            advance(3) = 3; command(3) = 4; restore(1) = 8; isOpen(10) = true; isOpen(12) = false; isOpen(20) = true
            isOpen(21) = false; isOpen(30) = false; isOpen(14) = true; status(7) = 3; log(0, 0) = 7; log(0, 1) = 1
            log(0, 2) = 1; log(1, 0) = 5; log(1, 1) = 2; log(1, 2) = 0; log(2, 0) = 2; log(2, 1) = 1; log(2, 2) = 0
            advance(4) = 1; log(0, 1) = 2; log(0, 2) = 1; command(1) = 3; advance(10) = 3; holdShare() = 0.5
            """);
        Runs.check("Promise 15: the hold that a restore brings back ends with its own number", """
            begin(9) = 60; addHold(9, 4) = 0; addHold(8, 1) = 1; command(0) = 1; advance(1) = 2; save(0) = 1; advance(6) = 1
            log(0, 2) = 1; restore(0) = 1; advance(3) = 1; log(0, 1) = 2; log(0, 2) = 0
            """);
        Runs.check("Promise 15: the state stays saved as it was", """
            command(0) = 1; advance(5) = 1; save(2) = 5; restore(2) = 5; advance(5) = 1; command(1) = 3; command(3) = 4
            restore(2) = 5; status(0) = 1; status(2) = 55; status(7) = 0
            """);
    }
}
