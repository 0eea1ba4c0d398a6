import java.lang.reflect.InvocationTargetException;
import java.lang.reflect.Method;

/**
 * Carries out runs of calls that are written as the document writes its examples, each on a new object:
 * "begin(10) = 60; command(2) = throws IllegalStateException". "166 * advance(600) = 0" is a call that is made 166
 * times. A line "text s;+2" clears the buffer and appends these characters.
 * A call that throws must change nothing: the digest stays, and a twin, on which such calls are not made, answers
 * every call like the object, also those of {@link Twins} behind the run.
 */
final class Runs {
    private static int wrong = 0;
    private static int calls = 0;

    private Runs() {
    }

    static void check(String title, String run) {
        LaunchCountdown x = new LaunchCountdown();
        LaunchCountdown twin = new LaunchCountdown();
        boolean refused = false;
        for (String line : run.split("\n")) {
            if (line.trim().startsWith("text ")) {
                type(title, x, line.trim().substring(5));
                type(title, twin, line.trim().substring(5));
                continue;
            }
            for (String call : line.split(";")) {
                if (!call.isBlank()) {
                    refused |= checkRepeated(title, x, twin, call.trim());
                }
            }
        }
        if (refused) {
            Twins.compare(title, x, twin);
        }
    }

    /** Ends the test program with exit code 1 if an answer was wrong. */
    static void end() {
        System.out.println(calls + " calls, " + wrong + " wrong");
        if (wrong != 0 || calls == 0) {
            System.exit(1);
        }
    }

    static void due(String title, Object got, Object want) {
        calls++;
        if (!got.equals(want)) {
            wrong++;
            System.out.println(title + ": answered " + got + ", due is " + want);
        }
    }

    /** The answer as a text; for an exception "throws " and its simple name. */
    static String answer(Object x, String name, Object... arguments) {
        for (Method method : x.getClass().getDeclaredMethods()) {
            if (method.getName().equals(name) && method.getParameterCount() == arguments.length) {
                return answer(x, method, arguments);
            }
        }
        throw new IllegalArgumentException("no method " + name);
    }

    private static String answer(Object x, Method method, Object[] arguments) {
        try {
            return String.valueOf(method.invoke(x, arguments));
        } catch (InvocationTargetException e) {
            return "throws " + e.getCause().getClass().getSimpleName();
        } catch (IllegalAccessException e) {
            throw new IllegalStateException(e);
        }
    }

    private static void type(String title, LaunchCountdown x, String text) {
        x.clearBuffer();
        for (int i = 0; i < text.length(); i++) {
            due(title + ": append '" + text.charAt(i) + "'", x.append(text.charAt(i)), i + 1);
        }
    }

    /** Tells whether the call was refused. */
    private static boolean checkRepeated(String title, LaunchCountdown x, LaunchCountdown twin, String text) {
        int star = text.indexOf('*');
        int times = star < 0 ? 1 : Integer.parseInt(text.substring(0, star).trim());
        String call = text.substring(star + 1).trim();
        boolean refused = false;
        for (int i = 0; i < times; i++) {
            refused |= checkCall(title, x, twin, call);
        }
        return refused;
    }

    private static boolean checkCall(String title, LaunchCountdown x, LaunchCountdown twin, String call) {
        int open = call.indexOf('(');
        int close = call.indexOf(')');
        int equals = call.indexOf('=');
        if (open < 0 || close < open || equals < close) {
            throw new IllegalArgumentException("not a call with its answer: " + call);
        }
        String name = call.substring(0, open);
        String want = call.substring(equals + 1).trim();
        Object[] arguments = arguments(call.substring(open + 1, close));
        long before = x.digest();
        String got = answer(x, name, arguments);
        due(title + ": " + call, got, want);
        if (got.startsWith("throws")) {
            due(title + ": " + call + ", the digest behind it", x.digest(), before);
            return true;
        }
        due(title + ": " + call + ", on the twin", answer(twin, name, arguments), got);
        return false;
    }

    static Object[] arguments(String list) {
        if (list.isBlank()) {
            return new Object[0];
        }
        String[] texts = list.split(",");
        Object[] arguments = new Object[texts.length];
        for (int i = 0; i < texts.length; i++) {
            String text = texts[i].trim();
            boolean isBoolean = text.equals("true") || text.equals("false");
            if (isBoolean) {
                arguments[i] = Boolean.valueOf(text);
            } else {
                arguments[i] = Integer.valueOf(text);
            }
        }
        return arguments;
    }
}
