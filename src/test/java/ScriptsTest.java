/** Promises 16 to 19: the buffer and the scripts. */
public final class ScriptsTest {
    public static void main(String[] args) {
        append();
        clearBuffer();
        firstError();
        scriptSyntax();
        scriptCommands();
        Runs.end();
    }

    private static void append() {
        Runs.check("Promise 16: codes", """
            append(32) = throws IllegalArgumentException; append(127) = throws IllegalArgumentException
            append(-1) = throws IllegalArgumentException; append(65651) = throws IllegalArgumentException
            append(33) = 1; append(126) = 2; append(115) = 3; clearBuffer() = 3
            """);
        LaunchCountdown x = new LaunchCountdown();
        for (int length = 1; length <= 60; length++) {
            Runs.due("Promise 16: append " + length, x.append('s'), length);
        }
        long digest = x.digest();
        Runs.due("Promise 16: full", Runs.answer(x, "append", 115), "throws IllegalStateException");
        Runs.due("Promise 16: full and wrong", Runs.answer(x, "append", 32),
                "throws IllegalArgumentException");
        Runs.due("Promise 16: nothing changed", x.digest(), digest);
        Runs.due("Promise 16: cleared", x.clearBuffer(), 60);
        Runs.due("Promise 16: again", x.append('s'), 1);
    }

    private static void clearBuffer() {
        Runs.check("Promise 17", """
            clearBuffer() = 0; append(115) = 1; append(115) = 2; firstError() = 1; clearBuffer() = 2; clearBuffer() = 0
            firstError() = 0; script() = throws IllegalStateException; append(115) = 1; firstError() = 1; script() = 1
            """);
        Runs.check("Promise 17: in the midst of a number", """
            text +60
            clearBuffer() = 3; append(43) = 1; append(55) = 2; append(49) = 3; firstError() = 3; script() = 1; status(1) = 71
            """);
    }

    private static void error(String text, int index) {
        Runs.check("Promise 18: " + text, "text " + text + "\nfirstError() = " + index);
    }

    private static void firstError() {
        Runs.check("Promise 18: empty", "firstError() = 0");
        String[] right = {"s", "h", "r", "x", "c", "c0", "c9", "+", "+1", "+9", "+10", "+600", "+599", "v", "v9", "v99",
            "v999", "v012", "s;", "s;h;r;x;c1;+5;v000", "+60;+600;+6", "+1;", "c1;", "v000;", "s;+"};
        for (String text : right) {
            error(text, text.length());
        }
        error(";", 0);
        error("1", 0);
        error("S", 0);
        error("-", 0);
        error("a;s", 0);
        error("ss", 1);
        error("s1", 1);
        error("s;;", 2);
        error("s;hx;", 3);
        error("+0", 1);
        error("+;", 1);
        error("+s", 1);
        error("+01", 1);
        error("+601", 3);
        error("+610", 3);
        error("+700", 3);
        error("+61;+999", 7);
        error("+6000", 4);
        error("+1000", 4);
        error("+5s", 2);
        error("+5+", 2);
        error("c;", 1);
        error("ca", 1);
        error("c12", 2);
        error("v;", 1);
        error("v1;", 2);
        error("v12;", 3);
        error("v1234", 4);
        error("v/00", 1);
        error("v:00", 1);
        error("c/", 1);
        error("c:", 1);
        error("+/", 1);
        error("+1:", 2);
        error("!!", 0);
        error("s!s", 1);
    }

    private static void notComplete(String text) {
        Runs.check("Promise 19: " + text, "text " + text + "\nscript() = throws IllegalStateException\nclearBuffer() = "
                + text.length() + "\nstatus(0) = 0");
    }

    private static void scriptSyntax() {
        Runs.check("Promise 19: empty", "script() = throws IllegalStateException");
        notComplete("s;");
        notComplete("s;c");
        notComplete("s;+");
        notComplete("s;v");
        notComplete("s;v1");
        notComplete("s;v12");
        notComplete("ss");
        notComplete("s;+601");
        notComplete("s;h!");
        notComplete("ss;s");
    }

    private static void scriptCommands() {
        Runs.check("Promise 19: every command", """
            begin(99) = 60; addPoint(99) = 0; addConstraint(9, 9, 1) = 0
            text s;+5;h;+12;v042;c0;r;+7;x
            script() = 9; status(0) = 4; status(1) = 24; status(2) = 92; status(3) = 12; status(4) = 1; vote(0, 4, 0) = 2
            clearBuffer() = 0; log(0, 1) = 6; log(0, 2) = 0; log(1, 1) = 4; log(2, 1) = 5; log(3, 1) = 3
            """);
        Runs.check("Promise 19: up to one that is not possible", """
            text s;s;x
            script() = 1; status(0) = 1; clearBuffer() = 0
            text h;+2;h;x
            script() = 2; status(0) = 3; status(1) = 2
            text r;r;x
            script() = 1; status(0) = 1
            text c0
            script() = 0; clearBuffer() = 0
            text x;x
            script() = 1; status(0) = 4
            text +600
            script() = 1; status(1) = 602
            """);
        Runs.check("Promise 19: votes that are not possible", """
            addConstraint(9, 9, 1) = 0
            text v001;v003;x
            script() = 1; constraint(0, 2) = 1; status(0) = 0
            text v051;x
            script() = 0
            text v101;x
            script() = 0
            text v040;v000;x
            script() = 3; constraint(0, 2) = 0; status(0) = 4
            """);
        Runs.check("Promise 19: recycles that are not possible", """
            begin(9) = 60; addPoint(9) = 0; addPoint(1) = 1; setLimits(9, 1) = 600
            text c0
            script() = 0
            text s;h;c1;x
            script() = 2; status(0) = 3
            text c2;x
            script() = 0
            text c0;c0;x
            script() = 1; status(4) = 1; status(0) = 3
            """);
        Runs.check("Promise 19: a script of 60 characters", """
            text +1;+2;+3;+4;+5;+6;+7;+8;+9;+10;+11;+12;+13;+14;+15;+16;+17;s
            firstError() = 60; append(59) = throws IllegalStateException; script() = 18; status(1) = 153; status(0) = 1
            """);
        Runs.check("Promise 19: many seconds", """
            text +600;+600;+600;+600;+600;+600;+600;+600;+600;+600;+600;+600
            script() = 12; status(1) = 7200
            """);
        LaunchCountdown x = new LaunchCountdown();
        for (int i = 0; i < 166; i++) {
            x.advance(600);
        }
        for (char code : "+399;+1;s".toCharArray()) {
            x.append(code);
        }
        Runs.due("Promise 19: up to the last second", x.script(), 1);
        Runs.due("Promise 19: the clock", x.status(1), 99999);
        Runs.due("Promise 19: the rest is not carried out", x.status(0), 0);
    }
}
