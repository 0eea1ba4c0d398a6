/** The four examples under "Terms". */
public final class ExamplesTest {
    public static void main(String[] args) {
        Runs.check("Example 1", """
            addSpan(0, 100, false) = 0; addHold(50, 1) = 0; addEvent(50, -1) = 0; liftoff() = 61; command(0) = 1
            run() = 12; run() = 50; status(2) = 0; log(0, 1) = 7; advance(60) = 5; liftoff() = 61; status(0) = 5
            """);
        Runs.check("Example 2", """
            begin(10) = 60; addConstraint(8, 3, 2) = 0; addPoint(9) = 0; command(0) = 1; advance(5) = 3
            status(6) = 0; command(2) = throws IllegalStateException; vote(0, 0, 1) = 0; vote(0, 1, 1) = 0
            recycle(0) = 8; status(3) = 2; command(2) = 1; advance(20) = 3; status(6) = 11
            """);
        Runs.check("Example 3", """
            begin(5) = 60; addConstraint(5, 5, 1) = 0; setLimits(0, 1) = 600
            append(115) = 1; append(59) = 2; append(43) = 3; append(50) = 4; firstError() = 4; script() = 2
            status(0) = 4; log(0, 2) = 1; addSpan(1, 2, true) = throws IllegalStateException
            command(1) = throws IllegalStateException
            """);
        Runs.check("Example 4", """
            addSpan(40, 90, false) = 0; addSpan(60, 70, true) = 0; slack(false) = 11; slack(true) = 30
            isOpen(65) = false; ifAdvanced(5, 1) = 5; save(3) = throws IndexOutOfBoundsException
            restore(1) = throws IllegalStateException; save(1) = 0; command(3) = 4; liftoff() = -1; restore(1) = 0
            """);
        Runs.end();
    }
}
