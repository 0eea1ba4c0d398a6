/** Promises 16 to 19 and the syntax of scripts: each sentence that names a boundary, by a run of its own. */
public final class ScriptsEdgesTest {
    private static final String LEAST = "-2147483648";
    private static final String GREATEST = "2147483647";
    /** A script of 59 characters: one more fits into the buffer. */
    private static final String FIFTY_NINE = "+600;+600;+600;+600;+600;+600;+600;+600;+600;+600;+600;+600";

    public static void main(String[] args) {
        append();
        clearBuffer();
        everyCharacter();
        numbers();
        commandsOneByOne();
        behindAnError();
        notComplete();
        refusedCommands();
        wholeScripts();
        Runs.end();
    }

    /** A run in which LEAST and GREATEST stand for the least and the greatest int. */
    private static void check(String title, String run) {
        Runs.check(title, run.replace("LEAST", LEAST).replace("GREATEST", GREATEST));
    }

    private static void append() {
        check("Promise 16: code 33 to 126, below", """
            append(32) = throws IllegalArgumentException; append(0) = throws IllegalArgumentException
            append(-1) = throws IllegalArgumentException; append(LEAST) = throws IllegalArgumentException; append(33) = 1
            """);
        check("Promise 16: code 33 to 126, above", """
            append(127) = throws IllegalArgumentException; append(256) = throws IllegalArgumentException
            append(65651) = throws IllegalArgumentException; append(GREATEST) = throws IllegalArgumentException; append(126) = 1
            """);
        StringBuilder all = new StringBuilder();
        for (int code = 33; code <= 126; code++) {
            all.append("append(" + code + ") = 1; clearBuffer() = 1\n");
        }
        check("Promise 16: every code from 33 to 126", all.toString());
        check("Promise 16: the buffer has 59 characters", "text " + FIFTY_NINE + "\nappend(115) = 60; clearBuffer() = 60");
        check("Promise 16: the buffer has 60 characters", "text " + FIFTY_NINE + """

            append(59) = 60; append(115) = throws IllegalStateException; append(33) = throws IllegalStateException; firstError() = 60
            clearBuffer() = 60; append(115) = 1
            """);
        check("Promise 16: the order of the exceptions", "text " + FIFTY_NINE + """

            append(59) = 60; append(32) = throws IllegalArgumentException; append(127) = throws IllegalArgumentException
            append(126) = throws IllegalStateException
            """);
        check("Promise 16: a refused character is no part of the script", """
            append(115) = 1; append(32) = throws IllegalArgumentException; firstError() = 1; script() = 1; status(0) = 1
            """);
    }

    private static void clearBuffer() {
        check("Promise 17: an empty buffer", "clearBuffer() = 0; clearBuffer() = 0; append(115) = 1; clearBuffer() = 1; clearBuffer() = 0");
        check("Promise 17: a full buffer", "text " + FIFTY_NINE + "\nappend(59) = 60; clearBuffer() = 60; clearBuffer() = 0; append(120) = 1");
        check("Promise 17: a cleared error is gone", """
            text ;;
            firstError() = 0; clearBuffer() = 2; firstError() = 0; append(115) = 1; firstError() = 1; script() = 1
            """);
    }

    private static void error(String text, int index) {
        Runs.check("Promise 18: " + text, "text " + text + "\nfirstError() = " + index);
    }

    /** Behind each beginning, exactly the characters of the list are no error. */
    private static void allowed(String beginning, String characters) {
        for (char code = 33; code <= 126; code++) {
            boolean right = characters.indexOf(code) >= 0;
            error(beginning + code, right ? beginning.length() + 1 : beginning.length());
        }
    }

    private static void everyCharacter() {
        Runs.check("Promise 18: an empty buffer", "firstError() = 0");
        String digits = "0123456789";
        String commands = "shrxc+v";
        allowed("", commands);
        allowed("s;", commands);
        allowed("s", ";");
        allowed("h", ";");
        allowed("r", ";");
        allowed("x", ";");
        allowed("c", digits);
        allowed("c0", ";");
        allowed("c9", ";");
        allowed("v", digits);
        allowed("v9", digits);
        allowed("v99", digits);
        allowed("v999", ";");
        allowed("+", "123456789");
        allowed("+1", digits + ";");
        allowed("+6", digits + ";");
        allowed("+9", digits + ";");
        allowed("+10", digits + ";");
        allowed("+59", digits + ";");
        allowed("+60", "0;");
        allowed("+61", ";");
        allowed("+99", ";");
        allowed("+100", ";");
        allowed("+599", ";");
        allowed("+600", ";");
        allowed("+600;", commands);
        allowed("c0;", commands);
        allowed("v000;", commands);
    }

    private static void numbers() {
        for (int number = 1; number <= 600; number++) {
            String text = "+" + number;
            Runs.check("Promise 18: " + text, "text " + text + "\nfirstError() = " + text.length() + "\nscript() = 1; status(1) = " + number);
        }
        for (int number = 601; number <= 1200; number++) {
            error("+" + number, number < 1000 ? 3 : 4);
        }
        for (String leading : new String[] {"+0", "+00", "+01", "+0600", "+0;s"}) {
            error(leading, 1);
        }
        error("s;+0", 3);
        error("s;+601", 5);
        error("+600;+601", 8);
        error("+6;+60;+600;+6000", 16);
        error("+2147483648", 4);
        error("+4294967297", 4);
    }

    private static void commandsOneByOne() {
        for (int point = 0; point <= 9; point++) {
            error("c" + point, 2);
        }
        for (int digits = 0; digits <= 999; digits++) {
            String vote = "v" + digits / 100 + digits / 10 % 10 + digits % 10;
            error(vote, 4);
        }
    }

    private static void behindAnError() {
        error("ss;s;s", 1);
        error("a;b;c", 0);
        error("s;!;s", 2);
        error("s!;!", 1);
        error(FIFTY_NINE + ";", 60);
        error(FIFTY_NINE + "s", 59);
        error(FIFTY_NINE + "0", 59);
        error("!" + FIFTY_NINE, 0);
        check("Promise 18: an error found stays where it is, the length grows", """
            append(115) = 1; firstError() = 1; append(59) = 2; firstError() = 2; append(59) = 3; firstError() = 2; append(115) = 4
            firstError() = 2; append(115) = 5; firstError() = 2
            """);
    }

    private static void notComplete() {
        String[] texts = {"s;", "c", "s;c", "+", "s;+", "v", "v0", "v00", "s;v00", "s;+600;", "ss", "+0", "+601", "c10", "v0000",
            ";", ";s", "s;;s", "!", "sx", FIFTY_NINE + ";", FIFTY_NINE + "s"};
        for (String text : texts) {
            Runs.check("Promise 19: not a complete script: " + text, "text " + text + "\nscript() = throws IllegalStateException\nclearBuffer() = "
                    + text.length() + "\nstatus(0) = 0; status(1) = 0");
        }
        Runs.check("Promise 19: an empty buffer is no script", "script() = throws IllegalStateException; status(0) = 0");
        Runs.check("Promise 19: a refused script can be completed", """
            text s;c
            script() = throws IllegalStateException; status(0) = 0; append(48) = 4; script() = 1; status(0) = 1; clearBuffer() = 0
            """);
    }

    /** Ahead of the last command stands one that is possible, behind it one that must not be carried out. */
    private static void refusedCommands() {
        String begun = "begin(9) = 60; addPoint(9) = 0; addPoint(1) = 1; addConstraint(0, 0, 1) = 0; setLimits(9, 1) = 600\n";
        refused(begun, "+1;h;x", 1, 0);
        refused(begun, "+1;r;x", 1, 0);
        refused(begun, "+1;c0;x", 1, 0);
        refused(begun, "s;s;x", 1, 1);
        refused(begun, "s;r;x", 1, 1);
        refused(begun, "s;c0;x", 1, 1);
        refused(begun, "s;h;h;x", 2, 3);
        refused(begun, "s;h;s;x", 2, 3);
        refused(begun, "s;h;c1;x", 2, 3);
        refused(begun, "s;h;c2;x", 2, 3);
        refused(begun, "s;h;c9;x", 2, 3);
        refused(begun, "s;h;c0;c0;x", 3, 3);
        refused(begun, "x;x;+1", 1, 4);
        refused(begun, "x;s;+1", 1, 4);
        refused(begun, "s;v051;x", 1, 1);
        refused(begun, "s;v101;x", 1, 1);
        refused(begun, "s;v003;x", 1, 1);
        refused(begun, "s;v999;x", 1, 1);
        refused(begun, "v041;v042;v040;h;x", 3, 0);
        refused(begun + "addHold(9, 3) = 0\n", "s;+1;h;x", 2, 2);
        refused("begin(1) = 60; addSpan(0, 9, false) = 0\n", "s;+2;x;+1", 2, 5);
        refused("begin(1) = 60; addConstraint(1, 1, 1) = 0\n", "s;+1;r;x", 2, 3);
        refused("166 * advance(600) = 0\n", "+399;+1;s", 1, 0);
        refused("166 * advance(600) = 0\n", "+400;s", 0, 0);
        refused("166 * advance(600) = 0; advance(399) = 0\n", "s;+1;x", 1, 1);
    }

    private static void refused(String begun, String text, int done, int phase) {
        Runs.check("Promise 19: up to the first one that is not possible: " + text, begun + "text " + text + "\nscript() = " + done
                + "; status(0) = " + phase + "; clearBuffer() = 0; firstError() = 0; script() = throws IllegalStateException");
    }

    private static void wholeScripts() {
        check("Promise 19: the first command is not possible", """
            text h
            script() = 0; clearBuffer() = 0; status(0) = 0; status(7) = 0
            """);
        check("Promise 19: what was carried out ahead of the refused command stays", """
            addConstraint(9, 9, 1) = 0
            text v001;s;+5;h;+2;h;x
            script() = 5; status(0) = 3; status(1) = 7; status(2) = 55; status(3) = 2; vote(0, 0, 0) = 1
            """);
        check("Promise 19: one advance that is refused lets no second pass", """
            166 * advance(600) = 0; command(0) = 1
            text +400
            script() = 0; status(1) = 99600; status(2) = 60
            """);
        check("Promise 19: 30 commands, in 59 characters", """
            text s;h;r;h;r;h;r;h;r;h;r;h;r;h;r;h;r;h;r;h;r;h;r;h;r;h;r;h;r;h
            firstError() = 59; script() = 30; status(0) = 3; status(7) = 24; clearBuffer() = 0
            """);
        check("Promise 19: 60 characters", """
            text s;h;r;h;r;h;r;h;r;h;r;h;r;h;r;h;r;h;r;h;r;h;r;h;r;h;r;h;r;+1
            firstError() = 60; append(59) = throws IllegalStateException; script() = 30; status(0) = 1; status(1) = 1; clearBuffer() = 0
            """);
        check("Promise 19: 7200 seconds, in 59 characters", "text " + FIFTY_NINE + "\nscript() = 12; status(1) = 7200");
        check("Promise 19: the last point, constraint and voter", """
            addPoint(60) = 0; addPoint(60) = 1; addPoint(60) = 2; addPoint(60) = 3; addConstraint(1, 1, 1) = 0
            addConstraint(1, 1, 1) = 1; addConstraint(1, 1, 1) = 2; addConstraint(1, 1, 1) = 3; addConstraint(1, 1, 1) = 4
            addConstraint(1, 1, 1) = 5
            text v542;s;h;c3;c4
            script() = 4; constraint(5, 3) = 1; vote(5, 4, 0) = 2; log(0, 1) = 5; log(0, 2) = 3
            """);
    }
}
