/** Promises 10 to 15: each sentence that names a boundary, by a run of its own. */
public final class CommandsEdgesTest {
    private static final String LEAST = "-2147483648";
    private static final String GREATEST = "2147483647";

    public static void main(String[] args) {
        commandNumbers();
        commandPhases();
        resume();
        recycle();
        advance();
        runPhases();
        runSeconds();
        save();
        restore();
        Runs.end();
    }

    /** A run in which LEAST and GREATEST stand for the least and the greatest int. */
    private static void check(String title, String run) {
        Runs.check(title, run.replace("LEAST", LEAST).replace("GREATEST", GREATEST));
    }

    private static void commandNumbers() {
        check("Promise 10: what is not 0 to 3", """
            command(-1) = throws IllegalArgumentException; command(LEAST) = throws IllegalArgumentException
            command(4) = throws IllegalArgumentException; command(GREATEST) = throws IllegalArgumentException; status(0) = 0
            command(0) = 1; command(3) = 4
            """);
        check("Promise 10: the order of the exceptions, where no command is possible", """
            command(3) = 4; command(-1) = throws IllegalArgumentException; command(4) = throws IllegalArgumentException
            command(0) = throws IllegalStateException; command(3) = throws IllegalStateException
            """);
    }

    private static void commandPhases() {
        String begun = "begin(2) = 60; addHold(2, 2) = 0; addSpan(0, 9, false) = 0; addPoint(2) = 0\n";
        check("Promise 10: phase 0: start", begun + """
            command(1) = throws IllegalStateException; command(2) = throws IllegalStateException; command(0) = 1; status(0) = 1
            status(7) = 0; status(11) = 1
            """);
        check("Promise 10: phase 0: scrub", begun + "command(3) = 4; log(0, 0) = 0; log(0, 1) = 6; log(0, 2) = 0; status(11) = 0");
        check("Promise 10: phase 1: hold", begun + """
            command(0) = 1; command(0) = throws IllegalStateException; command(2) = throws IllegalStateException; command(1) = 3
            status(6) = 10; log(0, 0) = 0; log(0, 1) = 3; log(0, 2) = 10; status(2) = 2; status(3) = 0
            """);
        check("Promise 10: phase 1: scrub", begun + "command(0) = 1; command(3) = 4; log(0, 1) = 6; log(0, 2) = 0");
        check("Promise 10: phase 2: scrub alone", begun + """
            command(0) = 1; advance(1) = 2; command(0) = throws IllegalStateException; command(1) = throws IllegalStateException
            command(2) = throws IllegalStateException; status(0) = 2; status(5) = 1; command(3) = 4; log(0, 0) = 1; log(0, 1) = 6
            advance(1) = 4; status(7) = 2
            """);
        check("Promise 10: phase 3: resume", begun + """
            command(0) = 1; command(1) = 3; command(0) = throws IllegalStateException; command(1) = throws IllegalStateException
            advance(1) = 3; command(2) = 1; log(0, 0) = 1; log(0, 1) = 4; log(0, 2) = 1; status(6) = -1
            """);
        check("Promise 10: phase 3: scrub", begun + "command(0) = 1; command(1) = 3; command(3) = 4; log(0, 1) = 6; log(0, 2) = 0");
        check("Promise 10: phase 4: nothing", begun + """
            command(3) = 4; command(0) = throws IllegalStateException; command(1) = throws IllegalStateException
            command(2) = throws IllegalStateException; command(3) = throws IllegalStateException; status(0) = 4; status(7) = 1
            """);
        check("Promise 10: phase 4 by the budget: nothing", """
            setLimits(0, 3) = 600; command(0) = 1; command(1) = 3; advance(1) = 4; command(0) = throws IllegalStateException
            command(1) = throws IllegalStateException; command(2) = throws IllegalStateException
            command(3) = throws IllegalStateException; status(7) = 2
            """);
        check("Promise 10: phase 5: nothing", begun + """
            command(0) = 1; advance(5) = 5; command(0) = throws IllegalStateException; command(1) = throws IllegalStateException
            command(2) = throws IllegalStateException; command(3) = throws IllegalStateException; status(0) = 5; status(7) = 3
            """);
    }

    private static void resume() {
        check("Promise 10: resume only if each active constraint is go, the last one too", """
            begin(3) = 60; addConstraint(3, 3, 1) = 0; addConstraint(3, 3, 1) = 1; command(0) = 1; command(1) = 3
            command(2) = throws IllegalStateException; vote(0, 0, 1) = 0; command(2) = throws IllegalStateException
            vote(1, 0, 1) = 0; command(2) = 1
            """);
        check("Promise 10: a constraint that is not active at the present count does not keep from a resume", """
            begin(4) = 60; addConstraint(4, 4, 1) = 0; addConstraint(2, 0, 1) = 1; vote(0, 0, 1) = 0; command(0) = 1; advance(1) = 1
            vote(0, 0, 0) = 1; status(2) = 3; command(1) = 3; command(2) = 1; advance(1) = 1; command(1) = 3; status(2) = 2
            command(2) = throws IllegalStateException
            """);
        check("Promise 10: resume where the guard of an event is not go", """
            begin(3) = 60; addConstraint(0, 0, 1) = 0; addEvent(3, 0) = 0; command(0) = 1; advance(1) = 3; command(2) = 1
            advance(1) = 3; status(7) = 3
            """);
        check("Promise 10: resume where no second is open", """
            begin(1) = 60; command(0) = 1; advance(2) = 3; status(6) = 11; command(2) = 1; advance(1) = 3; status(6) = 11
            """);
        check("Promise 10: resume where the recycle brought an active constraint", """
            begin(3) = 60; addConstraint(3, 3, 1) = 0; addPoint(3) = 0; vote(0, 0, 1) = 0; command(0) = 1; advance(1) = 1
            vote(0, 0, 2) = 1; command(1) = 3; recycle(0) = 2; command(2) = throws IllegalStateException; vote(0, 0, 1) = 2
            command(2) = 1
            """);
    }

    private static void recycle() {
        check("Promise 11: the point does not exist", """
            recycle(0) = throws IndexOutOfBoundsException; addPoint(60) = 0; addPoint(60) = 1; command(0) = 1; command(1) = 3
            recycle(-1) = throws IndexOutOfBoundsException; recycle(LEAST) = throws IndexOutOfBoundsException
            recycle(2) = throws IndexOutOfBoundsException; recycle(GREATEST) = throws IndexOutOfBoundsException; status(4) = 0
            recycle(0) = 60; recycle(1) = 60; log(0, 2) = 1
            """);
        check("Promise 11: the last of four points", """
            addPoint(60) = 0; addPoint(60) = 1; addPoint(60) = 2; addPoint(60) = 3; command(0) = 1; command(1) = 3
            recycle(4) = throws IndexOutOfBoundsException; recycle(3) = 60; log(0, 2) = 3
            """);
        check("Promise 11: the order of the exceptions", """
            addPoint(60) = 0; recycle(1) = throws IndexOutOfBoundsException; recycle(-1) = throws IndexOutOfBoundsException
            recycle(0) = throws IllegalStateException; command(3) = 4; recycle(1) = throws IndexOutOfBoundsException
            recycle(0) = throws IllegalStateException
            """);
        check("Promise 11: only in phase 3", """
            begin(2) = 60; addPoint(2) = 0; addHold(2, 2) = 0; addSpan(0, 9, false) = 0; recycle(0) = throws IllegalStateException
            command(0) = 1; recycle(0) = throws IllegalStateException; advance(1) = 2; recycle(0) = throws IllegalStateException
            advance(1) = 1; command(1) = 3; save(0) = 2; recycle(0) = 2; status(0) = 3; command(3) = 4
            recycle(0) = throws IllegalStateException; restore(0) = 2; command(2) = 1; advance(3) = 5
            recycle(0) = throws IllegalStateException
            """);
        check("Promise 11: the point's count is not less than the present count", """
            begin(20) = 60; addPoint(9) = 0; addPoint(10) = 1; addPoint(11) = 2; command(0) = 1; advance(10) = 1; command(1) = 3
            status(2) = 10; recycle(0) = throws IllegalStateException; recycle(1) = 10; status(2) = 10; recycle(2) = 10
            status(2) = 11; recycle(1) = throws IllegalStateException; status(4) = 2
            """);
        check("Promise 11: fewer recycles than 3 at first", """
            addPoint(60) = 0; command(0) = 1; command(1) = 3; recycle(0) = 60; recycle(0) = 60; status(4) = 2; recycle(0) = 60
            status(4) = 3; recycle(0) = throws IllegalStateException; status(4) = 3; status(11) = 4; status(7) = 4
            """);
        check("Promise 11: fewer recycles than 1, and than 0", """
            addPoint(60) = 0; setLimits(9, 0) = 600; command(0) = 1; command(1) = 3; recycle(0) = throws IllegalStateException
            setLimits(9, 1) = 9; recycle(0) = 60; recycle(0) = throws IllegalStateException; setLimits(9, 2) = 9; recycle(0) = 60
            """);
        check("Promise 11: a recycle to the count 0, and from the count 0", """
            begin(1) = 60; addPoint(0) = 0; addPoint(1) = 1; command(0) = 1; advance(2) = 3; status(2) = 0; recycle(0) = 0
            status(2) = 0; recycle(1) = 0; status(2) = 1; status(6) = 11; status(11) = 3
            """);
        check("Promise 11: the phase and the reason stay, the log has an entry", """
            begin(3) = 60; addConstraint(2, 2, 1) = 0; addPoint(3) = 0; command(0) = 1; advance(2) = 3; advance(4) = 3; recycle(0) = 2
            status(0) = 3; status(6) = 0; status(3) = 4; log(0, 0) = 6; log(0, 1) = 5; log(0, 2) = 0; advance(1) = 3; status(3) = 5
            """);
    }

    private static void advance() {
        check("Promise 12: seconds 1 to 600, below", """
            advance(0) = throws IllegalArgumentException; advance(-1) = throws IllegalArgumentException
            advance(LEAST) = throws IllegalArgumentException; status(1) = 0; advance(1) = 0; status(1) = 1
            """);
        check("Promise 12: seconds 1 to 600, above", """
            advance(601) = throws IllegalArgumentException; advance(GREATEST) = throws IllegalArgumentException; status(1) = 0
            advance(600) = 0; status(1) = 600
            """);
        check("Promise 12: the clock would show more than 99999", """
            166 * advance(600) = 0; status(1) = 99600; advance(400) = throws IllegalStateException
            advance(600) = throws IllegalStateException; status(1) = 99600; advance(399) = 0; status(1) = 99999
            advance(1) = throws IllegalStateException; advance(600) = throws IllegalStateException; status(1) = 99999
            """);
        check("Promise 12: the order of the exceptions", """
            166 * advance(600) = 0; advance(399) = 0; advance(0) = throws IllegalArgumentException
            advance(601) = throws IllegalArgumentException; advance(GREATEST) = throws IllegalArgumentException
            """);
        check("Promise 12: no second of a refused advance passes", """
            begin(3) = 60; addEvent(3, -1) = 0; addHold(2, 1) = 0; 166 * advance(600) = 0; advance(390) = 0; command(0) = 1
            advance(10) = throws IllegalStateException; status(1) = 99990; status(2) = 3; status(7) = 0; status(9) = 0; advance(9) = 3
            status(1) = 99999; status(9) = 1; status(6) = 11; log(0, 0) = 99994
            """);
        check("Promise 12: liftoff in the last second that can pass", """
            begin(1) = 60; addSpan(99998, 99999, false) = 0; 166 * advance(600) = 0; advance(397) = 0; command(0) = 1; slack(true) = 1
            advance(2) = 5; liftoff() = 99998; status(1) = 99999; log(0, 0) = 99998
            """);
    }

    private static void runPhases() {
        check("Promise 13: not in phase 0", "run() = throws IllegalStateException; status(1) = 0; command(0) = 1; run() = 61");
        check("Promise 13: not in phase 4", "command(3) = 4; run() = throws IllegalStateException; status(1) = 0");
        check("Promise 13: not in phase 5", """
            begin(1) = 60; addSpan(0, 9, false) = 0; command(0) = 1; run() = 2; status(0) = 5; run() = throws IllegalStateException
            status(1) = 2
            """);
        check("Promise 13: phases 1, 2 and 3", """
            begin(3) = 60; addHold(2, 3) = 0; addConstraint(1, 1, 1) = 0; setLimits(4, 0) = 600; command(0) = 1; run() = 2
            status(0) = 2; run() = 2; status(0) = 1; run() = 2; status(0) = 3; run() = 5; status(0) = 4; status(3) = 5
            """);
        check("Promise 13: the clock would show more than 99999 after 600 seconds", """
            begin(2) = 60; addEvent(2, -1) = 0; 165 * advance(600) = 0; advance(400) = 0; command(0) = 1; status(1) = 99400
            run() = throws IllegalStateException; status(1) = 99400; status(9) = 0
            """);
        check("Promise 13: the clock would show 99999 after 600 seconds", """
            begin(2) = 60; addEvent(2, -1) = 0; 165 * advance(600) = 0; advance(399) = 0; command(0) = 1; status(1) = 99399
            run() = 1; status(1) = 99400; status(9) = 1; run() = throws IllegalStateException
            """);
        check("Promise 13: up to the last second of the clock", """
            165 * advance(600) = 0; advance(399) = 0; command(0) = 1; command(1) = 3; run() = 600; status(1) = 99999; status(3) = 600
            run() = throws IllegalStateException; status(0) = 3
            """);
    }

    private static void runSeconds() {
        check("Promise 13: at most 600", """
            begin(3600) = 60; addEvent(3001, -1) = 0; addEvent(2400, -1) = 1; command(0) = 1; run() = 600; status(9) = 1
            status(2) = 3000; run() = 600; status(9) = 1; status(2) = 2400; run() = 1; status(9) = 2
            """);
        check("Promise 13: the phase changes in the 600th second, and in the 601st", """
            begin(3600) = 60; addHold(3001, 2) = 0; addHold(2400, 2) = 1; command(0) = 1; run() = 600; status(0) = 2; run() = 1
            status(0) = 1; run() = 600; status(2) = 2401; run() = 2; status(0) = 2
            """);
        check("Promise 13: a built-in hold of one second does not end the run", """
            begin(9) = 60; addHold(8, 1) = 0; addEvent(7, -1) = 0; command(0) = 1; run() = 4; status(9) = 1; status(10) = 1
            """);
        check("Promise 13: a hold of two seconds does", """
            begin(9) = 60; addHold(8, 2) = 0; command(0) = 1; run() = 2; status(0) = 2; status(5) = 1; run() = 1; status(0) = 1
            """);
        check("Promise 13: the second in which an event has fired is the last one", """
            begin(9) = 60; addEvent(9, -1) = 0; addEvent(8, -1) = 1; addEvent(0, -1) = 2; command(0) = 1; run() = 1; status(2) = 8
            run() = 1; status(2) = 7; run() = 8; status(0) = 3; status(6) = 11; status(9) = 3
            """);
        check("Promise 13: an event that is held, and an event before it", """
            begin(9) = 60; addConstraint(0, 0, 1) = 0; addEvent(9, 0) = 0; addEvent(9, -1) = 1; command(0) = 1; run() = 1; status(0) = 3
            status(9) = 0; vote(0, 0, 1) = 0; command(2) = 1; run() = 1; status(9) = 2; status(0) = 1
            """);
        check("Promise 13: the budget ends the run in phase 3", """
            setLimits(599, 3) = 600; command(0) = 1; command(1) = 3; run() = 600; status(0) = 4; begin(60) = 60; command(0) = 1
            command(1) = 3; run() = 600; status(0) = 3; run() = 1; status(0) = 4
            """);
    }

    private static void save() {
        check("Promise 14: slot 0 to 2", """
            save(-1) = throws IndexOutOfBoundsException; save(LEAST) = throws IndexOutOfBoundsException
            save(3) = throws IndexOutOfBoundsException; save(32) = throws IndexOutOfBoundsException
            save(GREATEST) = throws IndexOutOfBoundsException; restore(0) = throws IllegalStateException; advance(1) = 0; save(0) = 1
            advance(1) = 0; save(1) = 2; advance(1) = 0; save(2) = 3; restore(0) = 1; restore(1) = 2; restore(2) = 3
            """);
        check("Promise 14: in every phase", """
            begin(2) = 60; addHold(2, 2) = 0; addSpan(0, 9, false) = 0; save(0) = 0; command(0) = 1; save(1) = 0; advance(1) = 2
            save(2) = 1; restore(0) = 0; status(0) = 0; restore(1) = 0; status(0) = 1; restore(2) = 1; status(0) = 2; status(5) = 1
            advance(1) = 1; command(1) = 3; save(0) = 2; command(3) = 4; save(1) = 2; restore(0) = 2; status(0) = 3; status(6) = 10
            restore(1) = 2; status(0) = 4; restore(0) = 2; command(2) = 1; advance(3) = 5; save(2) = 5; restore(0) = 2
            restore(2) = 5; status(0) = 5; liftoff() = 4
            """);
        check("Promise 14: a state that was saved there before is replaced", """
            save(1) = 0; advance(5) = 0; save(1) = 5; advance(5) = 0; restore(1) = 5; status(1) = 5; restore(0) = throws IllegalStateException
            """);
        check("Promise 14: the clock at its greatest value", """
            166 * advance(600) = 0; advance(399) = 0; save(0) = 99999; restore(0) = 99999; advance(1) = throws IllegalStateException
            """);
        check("Promise 14: the log at its greatest length", "command(0) = 1\n" + "command(1) = 3; command(2) = 1\n".repeat(12) + """
            status(7) = 24; save(0) = 0; advance(7) = 1; command(1) = 3; command(2) = 1; command(3) = 4; status(7) = 24; log(0, 1) = 6
            restore(0) = 0; status(7) = 24; log(0, 1) = 4; log(0, 0) = 0; log(23, 1) = 3; log(24, 1) = throws IndexOutOfBoundsException
            """);
        check("Promise 14: the pass: what has fired and begun", """
            begin(3) = 60; addEvent(3, -1) = 0; addHold(3, 1) = 0; addPoint(3) = 0; command(0) = 1; advance(2) = 1; save(0) = 2
            command(1) = 3; recycle(0) = 2; save(1) = 2; status(9) = 0; restore(0) = 2; status(9) = 1; status(10) = 1; status(11) = 1
            status(4) = 0; restore(1) = 2; status(9) = 0; status(10) = 0; status(11) = 2; status(4) = 1; status(6) = 10
            """);
        check("Promise 14: each vote", """
            addConstraint(9, 9, 1) = 0; vote(0, 0, 1) = 0; vote(0, 4, 2) = 0; save(0) = 0; vote(0, 0, 2) = 1; vote(0, 4, 0) = 2
            vote(0, 2, 1) = 0; restore(0) = 0; vote(0, 0, 0) = 1; vote(0, 4, 0) = 2; vote(0, 2, 0) = 0
            """);
        check("Promise 14: the spans, full and empty", """
            save(0) = 0; addSpan(1, 1, false) = 0; addSpan(2, 2, false) = 1; addSpan(3, 3, false) = 2; addSpan(4, 4, false) = 3
            addSpan(4, 4, true) = 0; save(1) = 0; restore(0) = 0; items(4) = 0; items(5) = 0; isOpen(1) = false
            addSpan(9, 9, false) = 0; isOpen(9) = true; restore(1) = 0; items(4) = 4; items(5) = 1; isOpen(1) = true; isOpen(9) = false
            isOpen(4) = false; addSpan(5, 5, false) = throws IllegalStateException
            """);
        check("Promise 14: the log, each entry's second, kind and value", """
            begin(9) = 60; addEvent(9, -1) = 0; addEvent(7, -1) = 1; command(0) = 1; advance(3) = 1; save(0) = 3; restore(0) = 3
            begin(9) = 9; addEvent(8, -1) = 0; addHold(7, 1) = 0; save(0) = 0; command(0) = 1; advance(3) = 1; save(1) = 3; status(7) = 3
            restore(0) = 0; status(7) = 0; advance(5) = 0; command(0) = 1; command(1) = 3; command(2) = 1; command(3) = 4; restore(1) = 3
            status(7) = 3; log(0, 0) = 2; log(0, 1) = 2; log(0, 2) = 0; log(1, 0) = 2; log(1, 1) = 1; log(1, 2) = 0; log(2, 0) = 1
            log(2, 1) = 0; log(2, 2) = 0
            """);
        check("Promise 14: the second of the start", """
            save(0) = 0; command(0) = 1; command(1) = 3; advance(4) = 3; save(1) = 4; restore(0) = 0; advance(2) = 0; command(0) = 1
            restore(1) = 4; holdShare() = 1.0
            """);
        check("Promise 14: the second of liftoff", """
            begin(1) = 60; addSpan(0, 9, false) = 0; save(0) = 0; command(0) = 1; advance(2) = 5; save(1) = 2; restore(0) = 0; advance(3) = 0
            command(0) = 1; advance(2) = 5; liftoff() = 4; restore(1) = 2; liftoff() = 1
            """);
        check("Promise 14: the present built-in hold, and what is left of it", """
            begin(3) = 60; addHold(3, 5) = 0; addHold(2, 9) = 1; command(0) = 1; advance(2) = 2; save(0) = 2; advance(6) = 2; status(5) = 7
            restore(0) = 2; status(5) = 3; advance(3) = 1; log(0, 0) = 4; log(0, 1) = 2; log(0, 2) = 0
            """);
        check("Promise 14: the reason", """
            begin(3) = 60; addConstraint(3, 3, 1) = 0; command(0) = 1; advance(1) = 3; save(0) = 1; vote(0, 0, 1) = 0; command(2) = 1
            command(1) = 3; status(6) = 10; restore(0) = 1; status(6) = 0
            """);
        check("Promise 14: both limits", """
            addPoint(60) = 0; setLimits(1, 1) = 600; command(0) = 1; command(1) = 3; save(0) = 0; setLimits(9, 9) = 1; restore(0) = 0
            recycle(0) = 60; recycle(0) = throws IllegalStateException; advance(1) = 3; advance(1) = 4; setLimits(2, 2) = 1
            """);
        check("Promise 14: but not the buffer", """
            text s;h
            save(0) = 0; clearBuffer() = 3; append(120) = 1; restore(0) = 0; firstError() = 1; clearBuffer() = 1
            """);
    }

    private static void restore() {
        check("Promise 15: slot 0 to 2", """
            save(0) = 0; save(1) = 0; save(2) = 0; restore(-1) = throws IndexOutOfBoundsException
            restore(LEAST) = throws IndexOutOfBoundsException; restore(3) = throws IndexOutOfBoundsException
            restore(32) = throws IndexOutOfBoundsException; restore(GREATEST) = throws IndexOutOfBoundsException; restore(0) = 0
            restore(2) = 0
            """);
        check("Promise 15: no state is saved there", """
            restore(0) = throws IllegalStateException; restore(1) = throws IllegalStateException
            restore(2) = throws IllegalStateException; restore(3) = throws IndexOutOfBoundsException; advance(3) = 0; save(1) = 3
            restore(0) = throws IllegalStateException; restore(2) = throws IllegalStateException; restore(1) = 3
            """);
        check("Promise 15: a refused restore changes nothing", """
            save(0) = 0; command(0) = 1; advance(3) = 1; restore(1) = throws IllegalStateException
            restore(3) = throws IndexOutOfBoundsException; status(0) = 1; status(1) = 3; status(2) = 57; restore(0) = 0
            """);
        check("Promise 15: the state stays saved", """
            save(0) = 0; command(0) = 1; advance(3) = 1; restore(0) = 0; command(3) = 4; vote(0, 0, 1) = throws IndexOutOfBoundsException
            restore(0) = 0; status(0) = 0; status(7) = 0; addSpan(1, 1, false) = 0; setLimits(1, 1) = 600; restore(0) = 0; items(4) = 0
            setLimits(1, 1) = 600
            """);
        check("Promise 15: events that were added since stay, up to 12", """
            save(0) = 0; addEvent(60, -1) = 0; restore(0) = 0; items(0) = 1; addEvent(1, -1) = 1; addEvent(1, -1) = 2
            addEvent(1, -1) = 3; addEvent(1, -1) = 4; addEvent(1, -1) = 5; addEvent(1, -1) = 6; addEvent(1, -1) = 7
            addEvent(1, -1) = 8; addEvent(1, -1) = 9; addEvent(1, -1) = 10; addEvent(1, -1) = 11; restore(0) = 0; items(0) = 12
            addEvent(1, -1) = throws IllegalStateException; expected(0) = 0; expected(11) = 59
            """);
        check("Promise 15: holds that were added since stay", """
            save(0) = 0; addHold(5, 7) = 0; restore(0) = 0; items(1) = 1; liftoff() = 67; addHold(5, 1) = throws IllegalArgumentException
            """);
        check("Promise 15: points that were added since stay", """
            save(0) = 0; addPoint(60) = 0; restore(0) = 0; items(2) = 1; command(0) = 1; ifRecycled(0) = 60
            """);
        check("Promise 15: constraints that were added since stay, their votes become 0", """
            addConstraint(60, 60, 1) = 0; vote(0, 0, 1) = 0; save(0) = 0; addConstraint(60, 60, 2) = 1; vote(1, 0, 1) = 0
            vote(1, 1, 1) = 0; vote(1, 4, 2) = 0; vote(0, 0, 2) = 1; save(1) = 0; constraint(1, 0) = 1; restore(0) = 0; items(3) = 2
            constraint(0, 2) = 1; constraint(0, 3) = 0; constraint(1, 0) = 0; constraint(1, 2) = 0; constraint(1, 3) = 0
            restore(1) = 0; constraint(1, 2) = 2; constraint(1, 3) = 1; constraint(0, 3) = 1; vote(1, 4, 0) = 2
            """);
        check("Promise 15: windows and cutouts that were added since do not stay", """
            addSpan(0, 9, false) = 0; save(0) = 0; addSpan(20, 20, false) = 1; addSpan(3, 3, true) = 0; restore(0) = 0; items(4) = 1
            items(5) = 0; isOpen(20) = false; isOpen(3) = true
            """);
        check("Promise 15: what was added since has neither fired nor begun in the restored pass", """
            begin(5) = 60; save(0) = 0; command(0) = 1; advance(1) = 1; save(1) = 1; restore(0) = 0; addEvent(4, -1) = 0
            addEvent(5, -1) = 1; addHold(4, 2) = 0; addHold(5, 3) = 1; addConstraint(3, 3, 1) = 0; command(0) = 1; advance(9) = 3
            status(9) = 2; status(10) = 2; restore(1) = 1; status(9) = 0; status(10) = 0; expected(0) = 3; expected(1) = -1
            liftoff() = 7; advance(2) = 1; status(10) = 1; advance(1) = 1; status(9) = 1; advance(1) = 3; status(6) = 0
            """);
    }
}
