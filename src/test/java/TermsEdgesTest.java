/** The sentences of "Terms" that name a boundary, each by a run of its own. */
public final class TermsEdgesTest {
    public static void main(String[] args) {
        time();
        howManyItems();
        constraints();
        spans();
        whenItemsAreAdded();
        passes();
        secondsThatDoNothing();
        builtInHolds();
        constraintsInASecond();
        eventsInASecond();
        liftoffInASecond();
        budget();
        log();
        expectedLiftoff();
        Runs.end();
    }

    private static void time() {
        Runs.check("The clock shows seconds, from 0", "status(1) = 0; advance(1) = 0; status(1) = 1");
        Runs.check("The count begins at the length of the countdown", """
            status(2) = 60; begin(1) = 60; status(2) = 1; begin(3600) = 1; status(2) = 3600; command(0) = 1
            status(2) = 3600; advance(1) = 1; status(2) = 3599
            """);
        Runs.check("The phase is 0, 1, 2, 3, 4 and 5", """
            begin(2) = 60; addHold(2, 2) = 0; addSpan(0, 99, false) = 0; status(0) = 0; command(0) = 1; status(0) = 1
            advance(1) = 2; status(0) = 2; advance(1) = 1; command(1) = 3; status(0) = 3; command(2) = 1; advance(2) = 1
            status(2) = 0; advance(1) = 5; status(0) = 5; begin(2) = 2; command(3) = 4; status(0) = 4
            """);
    }

    private static void howManyItems() {
        Runs.check("Events, at most 12, numbered from 0 in the order in which they were added", """
            addEvent(9, -1) = 0; addEvent(8, -1) = 1; addEvent(7, -1) = 2; addEvent(6, -1) = 3; addEvent(5, -1) = 4
            addEvent(4, -1) = 5; addEvent(3, -1) = 6; addEvent(2, -1) = 7; addEvent(1, -1) = 8; addEvent(0, -1) = 9
            addEvent(60, -1) = 10; items(0) = 11; addEvent(59, -1) = 11; items(0) = 12
            addEvent(58, -1) = throws IllegalStateException; items(0) = 12
            expected(0) = 51; expected(9) = 60; expected(10) = 0; expected(11) = 1
            expected(12) = throws IndexOutOfBoundsException
            """);
        Runs.check("Built-in holds, at most 4", """
            addHold(9, 1) = 0; addHold(8, 2) = 1; addHold(7, 4) = 2; items(1) = 3; addHold(6, 8) = 3; items(1) = 4
            addHold(5, 16) = throws IllegalStateException; items(1) = 4; liftoff() = 75
            """);
        Runs.check("No two holds have the same count", """
            addHold(5, 1) = 0; addHold(5, 1) = throws IllegalArgumentException
            addHold(5, 2) = throws IllegalArgumentException; addHold(4, 1) = 1; addHold(6, 1) = 2
            addHold(4, 1) = throws IllegalArgumentException; addHold(6, 1) = throws IllegalArgumentException; items(1) = 3
            """);
        Runs.check("Recycle points, at most 4, also at one count", """
            addPoint(9) = 0; addPoint(9) = 1; addPoint(0) = 2; items(2) = 3; addPoint(60) = 3; items(2) = 4
            addPoint(9) = throws IllegalStateException; items(2) = 4; ifRecycled(3) = -1
            ifRecycled(4) = throws IndexOutOfBoundsException
            """);
        Runs.check("Constraints, at most 6", """
            addConstraint(9, 9, 1) = 0; addConstraint(9, 8, 1) = 1; addConstraint(9, 7, 1) = 2; addConstraint(9, 6, 1) = 3
            addConstraint(9, 5, 1) = 4; items(3) = 5; addConstraint(60, 60, 5) = 5; items(3) = 6
            addConstraint(9, 3, 1) = throws IllegalStateException; items(3) = 6; constraint(5, 1) = 1
            constraint(4, 1) = 0; constraint(6, 1) = throws IndexOutOfBoundsException
            """);
        Runs.check("Windows, at most 4, and cutouts, at most 6, have numbers of their own", """
            addSpan(0, 1, true) = 0; addSpan(10, 11, false) = 0; addSpan(20, 21, false) = 1; addSpan(2, 3, true) = 1
            addSpan(30, 31, false) = 2; items(4) = 3; addSpan(40, 41, false) = 3; items(4) = 4
            addSpan(50, 51, false) = throws IllegalStateException; addSpan(4, 5, true) = 2; addSpan(6, 7, true) = 3
            addSpan(8, 9, true) = 4; items(5) = 5; addSpan(40, 40, true) = 5; items(5) = 6
            addSpan(41, 41, true) = throws IllegalStateException; items(4) = 4; items(5) = 6
            isOpen(50) = false; isOpen(40) = false; isOpen(41) = true
            """);
    }

    private static void constraints() {
        Runs.check("Active from a count down to another count, both included", """
            begin(10) = 60; addConstraint(8, 6, 1) = 0; vote(0, 0, 1) = 0; command(0) = 1; constraint(0, 1) = 0
            advance(1) = 1; constraint(0, 1) = 0; advance(1) = 1; constraint(0, 1) = 1; advance(1) = 1
            constraint(0, 1) = 1; advance(1) = 1; status(2) = 6; constraint(0, 1) = 1; advance(1) = 1; constraint(0, 1) = 0
            """);
        Runs.check("Active at one count alone", """
            begin(3) = 60; addConstraint(2, 2, 1) = 0; vote(0, 0, 1) = 0; command(0) = 1; constraint(0, 1) = 0
            advance(1) = 1; constraint(0, 1) = 1; advance(1) = 1; constraint(0, 1) = 0
            """);
        Runs.check("Each voter has not voted, as at first", """
            addConstraint(9, 9, 1) = 0; constraint(0, 2) = 0; constraint(0, 3) = 0; constraint(0, 0) = 0
            vote(0, 0, 0) = 0; vote(0, 1, 0) = 0; vote(0, 2, 0) = 0; vote(0, 3, 0) = 0; vote(0, 4, 0) = 0
            """);
        Runs.check("Each of the five voters has a vote of his own", """
            addConstraint(9, 9, 1) = 0; vote(0, 0, 1) = 0; vote(0, 1, 2) = 0; vote(0, 2, 1) = 0; vote(0, 3, 2) = 0
            vote(0, 4, 1) = 0; constraint(0, 2) = 3; constraint(0, 3) = 2; vote(0, 0, 0) = 1; vote(0, 1, 0) = 2
            vote(0, 2, 0) = 1; vote(0, 3, 0) = 2; vote(0, 4, 0) = 1; constraint(0, 2) = 0; constraint(0, 3) = 0
            """);
        for (int quorum = 1; quorum <= 5; quorum++) {
            StringBuilder run = new StringBuilder("addConstraint(9, 9, " + quorum + ") = 0; constraint(0, 0) = 0\n");
            for (int voter = 0; voter < 5; voter++) {
                int go = voter + 1 >= quorum ? 1 : 0;
                run.append("vote(0, " + voter + ", 1) = 0; constraint(0, 0) = " + go + "\n");
            }
            Runs.check("Go by at least as many voters as the quorum " + quorum, run.toString());
        }
        Runs.check("Go if more have voted go than no-go: 1 and 1, 2 and 1, 2 and 2, 3 and 2", """
            addConstraint(9, 9, 1) = 0; vote(0, 0, 1) = 0; constraint(0, 0) = 1; vote(0, 1, 2) = 0; constraint(0, 0) = 0
            vote(0, 2, 1) = 0; constraint(0, 0) = 1; vote(0, 3, 2) = 0; constraint(0, 0) = 0; vote(0, 4, 1) = 0
            constraint(0, 0) = 1
            """);
        Runs.check("More go than no-go is not enough below the quorum", """
            addConstraint(9, 9, 3) = 0; vote(0, 0, 1) = 0; vote(0, 1, 1) = 0; vote(0, 2, 2) = 0; constraint(0, 0) = 0
            """);
    }

    private static void spans() {
        Runs.check("A window contains its first and its last second", """
            addSpan(5, 7, false) = 0; isOpen(4) = false; isOpen(5) = true; isOpen(6) = true; isOpen(7) = true; isOpen(8) = false
            """);
        Runs.check("A cutout contains its first and its last second", """
            addSpan(0, 20, false) = 0; addSpan(5, 7, true) = 0; isOpen(4) = true; isOpen(5) = false; isOpen(6) = false
            isOpen(7) = false; isOpen(8) = true
            """);
        Runs.check("Spans of one second", """
            addSpan(5, 5, false) = 0; isOpen(4) = false; isOpen(5) = true; isOpen(6) = false; addSpan(5, 5, true) = 0
            isOpen(5) = false
            """);
        Runs.check("Open: in a window, and in no cutout", """
            isOpen(3) = false; addSpan(3, 3, true) = 0; isOpen(3) = false; isOpen(4) = false; addSpan(3, 4, false) = 0
            isOpen(3) = false; isOpen(4) = true; addSpan(3, 3, false) = 1; isOpen(3) = false; addSpan(9, 9, true) = 1
            isOpen(4) = true; addSpan(4, 4, true) = 2; isOpen(4) = false
            """);
    }

    private static void whenItemsAreAdded() {
        String refused = """
            addEvent(1, -1) = throws IllegalStateException; addHold(1, 1) = throws IllegalStateException
            addPoint(1) = throws IllegalStateException; addConstraint(1, 1, 1) = throws IllegalStateException
            """;
        String spans = "addSpan(1, 1, false) = 1; addSpan(1, 1, true) = 0\n";
        String noSpans = """
            addSpan(1, 1, false) = throws IllegalStateException; addSpan(1, 1, true) = throws IllegalStateException
            """;
        String begun = "begin(2) = 60; addHold(2, 2) = 0; addSpan(0, 9, false) = 0\n";
        Runs.check("Items are added before the start", begun + """
            addEvent(1, -1) = 0; addHold(1, 1) = 1; addPoint(1) = 0; addConstraint(1, 1, 1) = 0
            """ + spans);
        Runs.check("Also when seconds have passed before the start", begun + """
            advance(600) = 0; addEvent(1, -1) = 0; addHold(1, 1) = 1; addPoint(1) = 0; addConstraint(1, 1, 1) = 0
            """ + spans);
        Runs.check("Phase 1: windows and cutouts alone", begun + "command(0) = 1\n" + refused + spans);
        Runs.check("Phase 2: windows and cutouts alone", begun + "command(0) = 1; advance(1) = 2\n" + refused + spans);
        Runs.check("Phase 3: windows and cutouts alone", begun + "command(0) = 1; command(1) = 3\n" + refused + spans);
        Runs.check("Phase 4: no item", begun + "command(3) = 4\n" + refused + noSpans);
        Runs.check("Phase 5: no item", begun + "command(0) = 1; advance(5) = 5\n" + refused + noSpans);
        Runs.check("A restored phase 0: every item again", begun + """
            save(0) = 0; command(0) = 1; advance(5) = 5; restore(0) = 0
            addEvent(1, -1) = 0; addHold(1, 1) = 1; addPoint(1) = 0; addConstraint(1, 1, 1) = 0
            """ + spans);
    }

    private static void passes() {
        Runs.check("A pass begins when the countdown is started, and with each recycle", """
            addPoint(60) = 0; status(11) = 0; command(0) = 1; status(11) = 1; command(1) = 3; status(11) = 1
            recycle(0) = 60; status(11) = 2; command(2) = 1; status(11) = 2; command(1) = 3; recycle(0) = 60; status(11) = 3
            """);
        Runs.check("In a pass each built-in hold takes place at most once", """
            begin(3) = 60; addHold(3, 1) = 0; addPoint(3) = 0; command(0) = 1; advance(1) = 1; status(2) = 3; command(1) = 3
            command(2) = 1; advance(1) = 1; status(2) = 2; status(10) = 1; command(1) = 3; recycle(0) = 2; command(2) = 1
            advance(1) = 1; status(2) = 3; status(10) = 1; advance(1) = 1; status(2) = 2
            """);
        Runs.check("In a pass each event fires at most once", """
            begin(3) = 60; addConstraint(0, 0, 1) = 0; addPoint(3) = 0; addEvent(3, -1) = 0; addEvent(3, 0) = 1
            command(0) = 1; advance(1) = 3; status(9) = 1; command(2) = 1; advance(1) = 3; status(9) = 1; status(7) = 4
            recycle(0) = 3; status(9) = 0; command(2) = 1; advance(1) = 3; status(9) = 1; log(1, 1) = 0; log(1, 2) = 0
            """);
    }

    private static void secondsThatDoNothing() {
        Runs.check("Phase 0: the clock alone", """
            begin(1) = 60; addHold(1, 1) = 0; addEvent(1, -1) = 0; addConstraint(1, 0, 1) = 0; addSpan(0, 99, false) = 0
            advance(600) = 0; status(1) = 600; status(2) = 1; status(3) = 0; status(7) = 0; status(9) = 0; status(10) = 0
            """);
        Runs.check("Phase 4: the clock alone", """
            begin(3) = 60; addEvent(2, -1) = 0; setLimits(0, 3) = 600; command(0) = 1; command(1) = 3; advance(1) = 4
            status(3) = 1; status(7) = 2; advance(600) = 4; status(1) = 601; status(2) = 3; status(3) = 1; status(7) = 2
            """);
        Runs.check("Phase 5: the clock alone", """
            begin(1) = 60; addEvent(0, -1) = 0; addSpan(0, 9, false) = 0; command(0) = 1; advance(2) = 5; status(7) = 2
            advance(600) = 5; status(1) = 602; status(2) = 0; status(3) = 0; status(7) = 2; status(9) = 1; liftoff() = 1
            """);
    }

    private static void builtInHolds() {
        Runs.check("A hold with the duration 1 is over with the second in which it began", """
            begin(3) = 60; addHold(3, 1) = 0; command(0) = 1; advance(1) = 1; status(10) = 1; status(2) = 3; status(5) = 0
            log(1, 0) = 0; log(1, 1) = 1; log(0, 0) = 0; log(0, 1) = 2; advance(1) = 1; status(2) = 2
            """);
        Runs.check("A hold with the duration 2: the second in which it begins is its first one", """
            begin(3) = 60; addHold(3, 2) = 0; command(0) = 1; advance(1) = 2; status(5) = 1; status(7) = 1; advance(1) = 1
            log(0, 0) = 1; log(0, 1) = 2; status(2) = 3; advance(1) = 1; status(2) = 2
            """);
        Runs.check("A hold with the duration 999", """
            begin(3) = 60; addHold(3, 999) = 0; command(0) = 1; advance(600) = 2; status(5) = 399; advance(398) = 2
            status(5) = 1; advance(1) = 1; status(5) = 0; log(0, 0) = 998; status(2) = 3
            """);
        Runs.check("A hold at the length, and one at the count 0", """
            begin(1) = 60; addHold(1, 1) = 0; addHold(0, 1) = 1; addSpan(0, 9, false) = 0; command(0) = 1; advance(1) = 1
            status(10) = 1; advance(1) = 1; status(2) = 0; advance(1) = 1; status(10) = 2; log(0, 0) = 2; log(0, 2) = 1
            advance(1) = 5; liftoff() = 3
            """);
        Runs.check("A hold is at its count alone", """
            begin(4) = 60; addHold(2, 1) = 0; command(0) = 1; advance(2) = 1; status(2) = 2; status(10) = 0; advance(1) = 1
            status(2) = 2; status(10) = 1
            """);
        Runs.check("A hold begins before a constraint that is not go, and before the events", """
            begin(3) = 60; addConstraint(3, 3, 1) = 0; addEvent(3, -1) = 0; addHold(3, 1) = 0; command(0) = 1; advance(1) = 1
            status(9) = 0; log(0, 1) = 2; advance(1) = 3; status(9) = 0; log(0, 1) = 3; status(6) = 0
            """);
        Runs.check("Holds at counts that follow one another", """
            begin(3) = 60; addHold(2, 2) = 0; addHold(3, 1) = 1; command(0) = 1; advance(1) = 1; log(0, 2) = 1; advance(1) = 1
            status(2) = 2; advance(1) = 2; log(0, 2) = 0; advance(1) = 1; log(0, 1) = 2; log(0, 2) = 0; status(10) = 2
            """);
    }

    private static void constraintsInASecond() {
        Runs.check("Not active above the count from which it is active", """
            begin(10) = 60; addConstraint(8, 6, 1) = 0; command(0) = 1; advance(2) = 1; status(2) = 8; advance(1) = 3
            status(2) = 8; status(6) = 0; log(0, 0) = 2
            """);
        Runs.check("Active at the count down to which it is active, and not below", """
            begin(10) = 60; addConstraint(8, 6, 1) = 0; vote(0, 0, 1) = 0; command(0) = 1; advance(4) = 1; status(2) = 6
            vote(0, 0, 0) = 1; advance(1) = 3; status(2) = 6; vote(0, 0, 1) = 0; command(2) = 1; advance(1) = 1
            vote(0, 0, 0) = 1; advance(1) = 1; status(2) = 4
            """);
        Runs.check("The reason is the lowest constraint that is active and not go", """
            begin(3) = 60; addConstraint(2, 0, 1) = 0; addConstraint(3, 0, 1) = 1; addConstraint(3, 3, 1) = 2
            addConstraint(3, 3, 1) = 3; vote(1, 4, 1) = 0; command(0) = 1; advance(1) = 3; status(6) = 2; log(0, 2) = 2
            vote(2, 0, 1) = 0; vote(3, 0, 1) = 0; command(2) = 1; vote(1, 4, 2) = 1; advance(1) = 3; status(6) = 1
            """);
        Runs.check("The last constraint can be the reason", """
            begin(3) = 60; addConstraint(2, 2, 1) = 0; addConstraint(2, 2, 1) = 1; addConstraint(2, 2, 1) = 2
            addConstraint(2, 2, 1) = 3; addConstraint(2, 2, 1) = 4; addConstraint(3, 3, 1) = 5; command(0) = 1; advance(1) = 3; status(6) = 5
            """);
        Runs.check("A constraint at the count 0 comes before liftoff and the reason 11", """
            begin(1) = 60; addConstraint(0, 0, 1) = 0; command(0) = 1; advance(1) = 1; advance(1) = 3; status(6) = 0
            addSpan(0, 9, false) = 0; vote(0, 0, 1) = 0; command(2) = 1; advance(1) = 5; liftoff() = 2
            """);
        Runs.check("A constraint that is not go comes before the events", """
            begin(3) = 60; addConstraint(3, 3, 1) = 0; addEvent(3, -1) = 0; command(0) = 1; advance(1) = 3; status(9) = 0
            vote(0, 0, 1) = 0; command(2) = 1; advance(1) = 1; status(9) = 1; status(2) = 2
            """);
    }

    private static void eventsInASecond() {
        Runs.check("The events at the present count fire in ascending order", """
            begin(3) = 60; addEvent(2, -1) = 0; addEvent(3, -1) = 1; addEvent(3, -1) = 2; command(0) = 1; advance(1) = 1
            status(9) = 2; log(0, 2) = 2; log(1, 2) = 1; log(1, 0) = 0; advance(1) = 1; status(9) = 3; log(0, 0) = 1; log(0, 2) = 0
            """);
        Runs.check("All 12 events fire in one second", """
            begin(3) = 60; addEvent(3, -1) = 0; addEvent(3, -1) = 1; addEvent(3, -1) = 2; addEvent(3, -1) = 3
            addEvent(3, -1) = 4; addEvent(3, -1) = 5; addEvent(3, -1) = 6; addEvent(3, -1) = 7; addEvent(3, -1) = 8
            addEvent(3, -1) = 9; addEvent(3, -1) = 10; addEvent(3, -1) = 11; command(0) = 1; run() = 1; status(9) = 12
            status(7) = 12; log(0, 2) = 11; log(11, 2) = 0; status(2) = 2
            """);
        Runs.check("An event whose constraint is not go begins a hold, and the further events are not looked at", """
            begin(3) = 60; addConstraint(0, 0, 1) = 0; addConstraint(0, 0, 1) = 1; vote(0, 0, 1) = 0; addEvent(3, 0) = 0
            addEvent(3, 1) = 1; addEvent(3, -1) = 2; command(0) = 1; advance(1) = 3; status(6) = 1; status(9) = 1
            status(2) = 3; log(0, 1) = 3; log(0, 2) = 1; log(1, 1) = 0; log(1, 2) = 0; vote(1, 0, 1) = 0; command(2) = 1
            advance(1) = 1; status(9) = 3; status(2) = 2
            """);
        Runs.check("An event at the length fires in the first second, one at 0 before liftoff", """
            begin(1) = 60; addEvent(1, -1) = 0; addEvent(0, -1) = 1; addSpan(0, 9, false) = 0; command(0) = 1; advance(1) = 1
            status(9) = 1; advance(1) = 5; status(9) = 2; log(1, 0) = 1; log(1, 1) = 0; log(1, 2) = 1; log(0, 0) = 1; log(0, 1) = 7
            """);
        Runs.check("A guard whose constraint is not active holds the event, too", """
            begin(3) = 60; addConstraint(0, 0, 1) = 0; addEvent(3, 0) = 0; command(0) = 1; advance(1) = 3; status(6) = 0
            constraint(0, 1) = 0; command(2) = 1
            """);
    }

    private static void liftoffInASecond() {
        Runs.check("Liftoff in the first second of a window", """
            begin(2) = 60; addSpan(2, 9, false) = 0; command(0) = 1; advance(2) = 1; status(2) = 0; advance(1) = 5
            log(0, 0) = 2; log(0, 1) = 7; log(0, 2) = 0; liftoff() = 2; status(1) = 3
            """);
        Runs.check("Liftoff in the last second of a window", """
            begin(2) = 60; addSpan(0, 2, false) = 0; command(0) = 1; advance(3) = 5; liftoff() = 2
            """);
        Runs.check("A second before the window", """
            begin(2) = 60; addSpan(3, 9, false) = 0; command(0) = 1; advance(3) = 3; status(6) = 11; log(0, 0) = 2
            log(0, 1) = 3; log(0, 2) = 11; command(2) = 1; advance(1) = 5; liftoff() = 3
            """);
        Runs.check("A second behind the window", """
            begin(2) = 60; addSpan(0, 1, false) = 0; command(0) = 1; advance(3) = 3; status(6) = 11; status(2) = 0
            """);
        Runs.check("In the last second of a cutout, and behind it", """
            begin(2) = 60; addSpan(0, 9, false) = 0; addSpan(1, 2, true) = 0; command(0) = 1; advance(3) = 3; status(6) = 11
            command(2) = 1; advance(1) = 5; liftoff() = 3
            """);
        Runs.check("In the first second of a cutout, and ahead of it", """
            begin(2) = 60; addSpan(0, 9, false) = 0; addSpan(3, 4, true) = 0; save(0) = 0; command(0) = 1; advance(3) = 5
            liftoff() = 2; restore(0) = 0; advance(1) = 0; command(0) = 1; advance(3) = 3; status(6) = 11
            """);
        Runs.check("At the count 1 there is no liftoff yet", """
            begin(1) = 60; addSpan(0, 9, false) = 0; command(0) = 1; advance(1) = 1; status(2) = 0; status(7) = 0; advance(1) = 5
            """);
    }

    private static void budget() {
        Runs.check("The second in which an unplanned hold begins does not count for the budget", """
            begin(3) = 60; addConstraint(3, 3, 1) = 0; setLimits(0, 3) = 600; command(0) = 1; advance(1) = 3; status(3) = 0
            advance(1) = 4; status(3) = 1
            """);
        Runs.check("Scrubbed when the used hold time is greater than the budget, not when it is equal", """
            setLimits(1, 3) = 600; command(0) = 1; command(1) = 3; advance(1) = 3; status(3) = 1; advance(1) = 4; status(3) = 2
            log(0, 0) = 1; log(0, 1) = 6; log(0, 2) = 1
            """);
        Runs.check("The budget 0: the first second of a hold scrubs", """
            setLimits(0, 3) = 600; command(0) = 1; command(1) = 3; advance(1) = 4; status(3) = 1; log(0, 0) = 0
            """);
        Runs.check("The budget is 600 at first", """
            command(0) = 1; command(1) = 3; advance(600) = 3; status(3) = 600; advance(1) = 4; status(3) = 601; log(0, 0) = 600
            """);
        Runs.check("The budget 9999", """
            setLimits(9999, 3) = 600; command(0) = 1; command(1) = 3; 16 * advance(600) = 3; advance(399) = 3; status(3) = 9999
            advance(1) = 4; status(3) = 10000
            """);
        Runs.check("Two holds share the budget", """
            setLimits(3, 3) = 600; command(0) = 1; command(1) = 3; advance(2) = 3; command(2) = 1; advance(5) = 1; command(1) = 3
            status(3) = 2; advance(1) = 3; status(3) = 3; advance(1) = 4
            """);
        Runs.check("Neither a running countdown nor a built-in hold uses the budget", """
            begin(9) = 60; setLimits(0, 3) = 600; addHold(9, 20) = 0; command(0) = 1; advance(20) = 1; advance(5) = 1; status(3) = 0
            """);
    }

    private static void log() {
        String pairs = "command(0) = 1; command(1) = 3\n" + "advance(1) = 3; command(2) = 1; command(1) = 3\n".repeat(10);
        Runs.check("The log keeps 23 entries, and 24", pairs + """
            status(7) = 21; log(20, 0) = 0; advance(1) = 3; command(2) = 1; command(1) = 3; status(7) = 23
            log(22, 0) = 0; log(22, 1) = 3; log(23, 0) = throws IndexOutOfBoundsException; advance(1) = 3; command(2) = 1
            status(7) = 24; log(23, 0) = 0; log(23, 1) = 3; log(23, 2) = 10; log(0, 0) = 12; log(0, 1) = 4; log(0, 2) = 12
            log(24, 0) = throws IndexOutOfBoundsException
            """);
        Runs.check("Only the latest 24 entries are kept", pairs + """
            advance(1) = 3; command(2) = 1; command(1) = 3; advance(1) = 3; command(2) = 1; status(7) = 24; advance(5) = 1
            command(3) = 4; status(7) = 24; log(23, 0) = 1; log(23, 1) = 4; log(23, 2) = 1; log(0, 0) = 17; log(0, 1) = 6
            log(1, 0) = 12; log(1, 1) = 4; log(24, 0) = throws IndexOutOfBoundsException
            """);
    }

    private static void expectedLiftoff() {
        Runs.check("A hold at the present count counts until it has begun", """
            begin(9) = 60; addHold(9, 4) = 0; liftoff() = 13; command(0) = 1; liftoff() = 13; advance(1) = 2; status(5) = 3
            liftoff() = 13; advance(3) = 1; status(1) = 4; liftoff() = 13; command(1) = 3; advance(1) = 3; liftoff() = 14
            """);
        Runs.check("A hold whose count is greater than the present one does not count", """
            begin(9) = 60; addHold(8, 4) = 0; addPoint(7) = 0; command(0) = 1; advance(6) = 1; status(2) = 7; liftoff() = 13
            command(1) = 3; recycle(0) = 7; liftoff() = 13; status(10) = 0
            """);
        Runs.check("A recycle to the hold's count lets it count again", """
            begin(9) = 60; addHold(8, 4) = 0; addPoint(8) = 0; command(0) = 1; advance(6) = 1; command(1) = 3; liftoff() = 13
            recycle(0) = 7; liftoff() = 18
            """);
        Runs.check("In phase 4 there is none, in phase 5 it is the second of liftoff", """
            begin(1) = 60; addSpan(0, 9, false) = 0; save(0) = 0; command(3) = 4; liftoff() = -1; restore(0) = 0; command(0) = 1
            advance(1) = 1; liftoff() = 1; advance(1) = 5; liftoff() = 1; advance(9) = 5; liftoff() = 1
            """);
    }
}
