/** Promises 1 to 9: a new object, and the plans. */
public final class PlansTest {
    public static void main(String[] args) {
        newObject();
        begin();
        addEvent();
        addHold();
        addPoint();
        addConstraint();
        addSpan();
        setLimits();
        vote();
        Runs.end();
    }

    private static void newObject() {
        Runs.check("Promise 1", """
            status(0) = 0; status(1) = 0; status(2) = 60; status(3) = 0; status(4) = 0; status(5) = 0
            status(6) = -1; status(7) = 0; status(8) = 60; status(9) = 0; status(10) = 0; status(11) = 0
            items(0) = 0; items(1) = 0; items(2) = 0; items(3) = 0; items(4) = 0; items(5) = 0
            clearBuffer() = 0; setLimits(1, 1) = 600; restore(0) = throws IllegalStateException; begin(1) = 60
            """);
    }

    private static void begin() {
        Runs.check("Promise 2: the length", """
            begin(0) = throws IllegalArgumentException; begin(-1) = throws IllegalArgumentException
            begin(3601) = throws IllegalArgumentException; begin(2147483647) = throws IllegalArgumentException
            begin(-2147483648) = throws IllegalArgumentException; status(8) = 60
            begin(1) = 60; begin(3600) = 1; status(8) = 3600; status(2) = 3600; begin(7) = 3600
            """);
        Runs.check("Promise 2: everything is new but the buffer", """
            begin(5) = 60; addEvent(5, -1) = 0; addHold(4, 2) = 0; addPoint(5) = 0; addConstraint(0, 0, 1) = 0
            vote(0, 0, 1) = 0; addSpan(0, 9, false) = 0; addSpan(3, 4, true) = 0; setLimits(20, 1) = 600
            append(115) = 1; command(0) = 1; advance(4) = 1; command(1) = 3; advance(3) = 3; recycle(0) = 3
            save(0) = 7; save(1) = 7; save(2) = 7; begin(6) = 5
            status(0) = 0; status(1) = 0; status(2) = 6; status(3) = 0; status(4) = 0; status(5) = 0
            status(6) = -1; status(7) = 0; status(8) = 6; status(9) = 0; status(10) = 0; status(11) = 0
            items(0) = 0; items(1) = 0; items(2) = 0; items(3) = 0; items(4) = 0; items(5) = 0
            restore(0) = throws IllegalStateException; restore(1) = throws IllegalStateException
            restore(2) = throws IllegalStateException; holdShare() = 0.0; isOpen(0) = false
            clearBuffer() = 1; addConstraint(6, 6, 1) = 0; constraint(0, 2) = 0; setLimits(0, 0) = 600
            """);
        Runs.check("Promise 2: the greatest number of recycles is 3 again", """
            addPoint(60) = 0; setLimits(9, 0) = 600; command(0) = 1; command(1) = 3
            recycle(0) = throws IllegalStateException; begin(60) = 60; addPoint(60) = 0; command(0) = 1
            command(1) = 3; recycle(0) = 60; recycle(0) = 60; recycle(0) = 60; status(4) = 3
            recycle(0) = throws IllegalStateException
            """);
        Runs.check("Promise 2: no vote is left", """
            addConstraint(9, 9, 1) = 0; vote(0, 0, 1) = 0; vote(0, 1, 2) = 0; begin(60) = 60; addConstraint(9, 9, 1) = 0
            constraint(0, 2) = 0; constraint(0, 3) = 0; vote(0, 1, 1) = 0; vote(0, 0, 1) = 0
            """);
        Runs.check("Promise 2: in the midst of a pass", """
            begin(5) = 60; addEvent(5, -1) = 0; addHold(5, 2) = 0; addHold(4, 9) = 1; command(0) = 1; advance(5) = 2
            status(9) = 1; status(10) = 2; begin(5) = 5; status(9) = 0; status(10) = 0; status(11) = 0
            """);
        Runs.check("Promise 2: also behind liftoff and scrub", """
            begin(1) = 60; addSpan(0, 9, false) = 0; command(0) = 1; advance(2) = 5; begin(2) = 1; status(0) = 0
            liftoff() = 2; command(3) = 4; begin(3) = 2; status(0) = 0; liftoff() = 3
            """);
    }

    private static void addEvent() {
        Runs.check("Promise 3", """
            begin(10) = 60; addEvent(-1, -1) = throws IllegalArgumentException
            addEvent(11, -1) = throws IllegalArgumentException; addEvent(11, 0) = throws IllegalArgumentException
            addEvent(10, 0) = throws IndexOutOfBoundsException; addEvent(10, -2) = throws IndexOutOfBoundsException
            addEvent(0, -1) = 0; addEvent(10, -1) = 1; addEvent(10, -1) = 2; addConstraint(3, 3, 1) = 0
            addEvent(5, 0) = 3; addEvent(5, 1) = throws IndexOutOfBoundsException; items(0) = 4
            expected(0) = 10; expected(1) = 0; expected(3) = 5; command(0) = 1
            addEvent(5, 0) = throws IllegalStateException; addEvent(5, 1) = throws IndexOutOfBoundsException
            addEvent(11, 1) = throws IllegalArgumentException; command(3) = 4
            addEvent(5, -1) = throws IllegalStateException; items(0) = 4
            """);
        Runs.check("Promise 3: at most 12", """
            addEvent(1, -1) = 0; addEvent(1, -1) = 1; addEvent(1, -1) = 2; addEvent(1, -1) = 3
            addEvent(1, -1) = 4; addEvent(1, -1) = 5; addEvent(1, -1) = 6; addEvent(1, -1) = 7
            addEvent(1, -1) = 8; addEvent(1, -1) = 9; addEvent(1, -1) = 10; addEvent(1, -1) = 11
            addEvent(1, -1) = throws IllegalStateException; addEvent(1, 0) = throws IndexOutOfBoundsException
            addEvent(61, 0) = throws IllegalArgumentException; items(0) = 12
            """);
    }

    private static void addHold() {
        Runs.check("Promise 4", """
            begin(10) = 60; addHold(-1, 1) = throws IllegalArgumentException
            addHold(11, 1) = throws IllegalArgumentException; addHold(3, 0) = throws IllegalArgumentException
            addHold(3, 1000) = throws IllegalArgumentException; items(1) = 0; addHold(0, 999) = 0
            addHold(10, 1) = 1; addHold(10, 2) = throws IllegalArgumentException; addHold(3, 5) = 2
            addHold(4, 5) = 3; addHold(5, 5) = throws IllegalStateException
            addHold(4, 5) = throws IllegalArgumentException; addHold(5, 0) = throws IllegalArgumentException
            items(1) = 4; liftoff() = 1020
            """);
        Runs.check("Promise 4: not behind the start", """
            command(0) = 1; addHold(4, 5) = throws IllegalStateException
            addHold(61, 5) = throws IllegalArgumentException; command(1) = 3
            addHold(4, 5) = throws IllegalStateException; items(1) = 0
            """);
    }

    private static void addPoint() {
        Runs.check("Promise 5", """
            begin(10) = 60; addPoint(-1) = throws IllegalArgumentException
            addPoint(11) = throws IllegalArgumentException; addPoint(0) = 0; addPoint(10) = 1; addPoint(10) = 2
            addPoint(5) = 3; addPoint(5) = throws IllegalStateException
            addPoint(11) = throws IllegalArgumentException; items(2) = 4
            """);
        Runs.check("Promise 5: not behind the start", """
            command(0) = 1; addPoint(5) = throws IllegalStateException; addPoint(61) = throws IllegalArgumentException
            command(3) = 4; addPoint(5) = throws IllegalStateException; items(2) = 0
            """);
    }

    private static void addConstraint() {
        Runs.check("Promise 6", """
            begin(10) = 60; addConstraint(11, 0, 1) = throws IllegalArgumentException
            addConstraint(-1, -1, 1) = throws IllegalArgumentException
            addConstraint(5, -1, 1) = throws IllegalArgumentException
            addConstraint(5, 6, 1) = throws IllegalArgumentException
            addConstraint(5, 5, 0) = throws IllegalArgumentException
            addConstraint(5, 5, 6) = throws IllegalArgumentException; items(3) = 0
            addConstraint(10, 0, 1) = 0; addConstraint(5, 5, 5) = 1; addConstraint(0, 0, 1) = 2
            addConstraint(10, 10, 3) = 3; addConstraint(1, 0, 1) = 4; addConstraint(1, 0, 1) = 5
            addConstraint(1, 0, 1) = throws IllegalStateException
            addConstraint(1, 2, 1) = throws IllegalArgumentException; items(3) = 6
            constraint(0, 1) = 1; constraint(1, 1) = 0; constraint(3, 1) = 1
            """);
        Runs.check("Promise 6: not behind the start", """
            command(0) = 1; addConstraint(5, 5, 1) = throws IllegalStateException
            addConstraint(5, 6, 1) = throws IllegalArgumentException; items(3) = 0
            """);
    }

    private static void addSpan() {
        Runs.check("Promise 7: ranges and numbers", """
            addSpan(-1, 5, false) = throws IllegalArgumentException
            addSpan(5, 4, false) = throws IllegalArgumentException
            addSpan(5, 100000, true) = throws IllegalArgumentException
            addSpan(100000, 100000, true) = throws IllegalArgumentException
            addSpan(0, 0, false) = 0; addSpan(99999, 99999, false) = 1; addSpan(0, 99999, true) = 0
            addSpan(2, 3, false) = 2; addSpan(2, 3, false) = 3; addSpan(2, 3, false) = throws IllegalStateException
            addSpan(3, 2, false) = throws IllegalArgumentException; addSpan(2, 3, true) = 1
            addSpan(2, 3, true) = 2; addSpan(2, 3, true) = 3; addSpan(2, 3, true) = 4; addSpan(2, 3, true) = 5
            addSpan(2, 3, true) = throws IllegalStateException; items(4) = 4; items(5) = 6
            """);
        Runs.check("Promise 7: in the phases 1, 2 and 3", """
            begin(5) = 60; addHold(5, 3) = 0; command(0) = 1; addSpan(1, 1, false) = 0; advance(1) = 2
            addSpan(1, 1, false) = 1; advance(2) = 1; command(1) = 3; addSpan(1, 1, false) = 2
            addSpan(1, 1, true) = 0; command(3) = 4; addSpan(1, 1, false) = throws IllegalStateException
            addSpan(2, 1, false) = throws IllegalArgumentException; items(4) = 3
            """);
        Runs.check("Promise 7: not behind liftoff", """
            begin(1) = 60; addSpan(0, 9, false) = 0; command(0) = 1; advance(2) = 5
            addSpan(1, 1, false) = throws IllegalStateException; addSpan(1, 1, true) = throws IllegalStateException
            """);
    }

    private static void setLimits() {
        Runs.check("Promise 8: ranges", """
            setLimits(-1, 0) = throws IllegalArgumentException; setLimits(10000, 0) = throws IllegalArgumentException
            setLimits(0, -1) = throws IllegalArgumentException; setLimits(0, 10) = throws IllegalArgumentException
            setLimits(0, 0) = 600; setLimits(9999, 9) = 0; setLimits(5, 5) = 9999
            """);
        Runs.check("Promise 8: the budget is in force in a hold", """
            command(0) = 1; command(1) = 3; advance(5) = 3; setLimits(5, 3) = 600; advance(1) = 4; status(3) = 6
            setLimits(7, 3) = 5; setLimits(0, 0) = 7; begin(1) = 60; addSpan(0, 5, false) = 0; command(0) = 1
            advance(2) = 5; setLimits(1, 1) = 600
            """);
        Runs.check("Promise 8: a budget below the used hold time", """
            command(0) = 1; command(1) = 3; advance(5) = 3; setLimits(2, 3) = 600; status(0) = 3; command(2) = 1
            advance(9) = 1; command(1) = 3; advance(1) = 4; log(0, 1) = 6; log(0, 2) = 1; log(0, 0) = 14
            """);
        Runs.check("Promise 8: a wrong call changes no limit", """
            addPoint(60) = 0; setLimits(7, 10) = throws IllegalArgumentException
            setLimits(10000, 0) = throws IllegalArgumentException; command(0) = 1; command(1) = 3; recycle(0) = 60
            setLimits(1, 1) = 600; recycle(0) = throws IllegalStateException; setLimits(1, 2) = 1; recycle(0) = 60
            """);
    }

    private static void vote() {
        Runs.check("Promise 9", """
            vote(0, 0, 1) = throws IndexOutOfBoundsException; addConstraint(60, 0, 2) = 0
            addConstraint(60, 0, 2) = 1; vote(-1, 0, 1) = throws IndexOutOfBoundsException
            vote(2, 0, 1) = throws IndexOutOfBoundsException; vote(0, -1, 1) = throws IndexOutOfBoundsException
            vote(0, 5, 1) = throws IndexOutOfBoundsException; vote(0, 5, 3) = throws IndexOutOfBoundsException
            vote(2, 0, 3) = throws IndexOutOfBoundsException; vote(0, 0, 3) = throws IllegalArgumentException
            vote(0, 0, -1) = throws IllegalArgumentException; vote(0, 0, 1) = 0; vote(0, 0, 2) = 1
            vote(0, 4, 1) = 0; vote(1, 0, 1) = 0; vote(0, 0, 0) = 2; vote(0, 0, 0) = 0; vote(0, 4, 4) = throws IllegalArgumentException
            constraint(0, 2) = 1; constraint(0, 3) = 0; constraint(1, 2) = 1
            """);
        Runs.check("Promise 9: in all phases", """
            begin(1) = 60; addConstraint(1, 1, 1) = 0; addHold(1, 2) = 0; addSpan(0, 99, false) = 0
            vote(0, 0, 2) = 0; command(0) = 1; vote(0, 0, 1) = 2; advance(1) = 2; vote(0, 0, 2) = 1
            advance(2) = 3; vote(0, 0, 1) = 2; command(2) = 1; advance(2) = 5; vote(0, 0, 0) = 1
            begin(1) = 1; addConstraint(1, 1, 1) = 0; command(3) = 4; vote(0, 0, 2) = 0; vote(0, 0, 2) = 2
            """);
        Runs.check("Promise 9: the quorum, and more go than no-go", """
            addConstraint(60, 0, 2) = 0; vote(0, 0, 1) = 0; constraint(0, 0) = 0; vote(0, 1, 1) = 0
            constraint(0, 0) = 1; vote(0, 2, 2) = 0; constraint(0, 0) = 1; vote(0, 3, 2) = 0; constraint(0, 0) = 0
            vote(0, 4, 1) = 0; constraint(0, 0) = 1; constraint(0, 2) = 3; constraint(0, 3) = 2
            """);
    }
}
