import java.io.IOException;
import java.lang.reflect.Constructor;
import java.lang.reflect.Field;
import java.lang.reflect.Method;
import java.lang.reflect.Modifier;
import java.nio.file.Files;
import java.nio.file.Path;
import java.util.Arrays;
import java.util.Set;
import java.util.TreeSet;
import java.util.stream.Collectors;

/** The public face, and some rules of LANGUAGE.md that can be seen without a run. */
public final class FaceTest {
    private static final String FACE = """
        int begin(int) IllegalArgumentException
        int addEvent(int,int) IllegalArgumentException,IndexOutOfBoundsException,IllegalStateException
        int addHold(int,int) IllegalArgumentException,IllegalStateException
        int addPoint(int) IllegalArgumentException,IllegalStateException
        int addConstraint(int,int,int) IllegalArgumentException,IllegalStateException
        int addSpan(int,int,boolean) IllegalArgumentException,IllegalStateException
        int setLimits(int,int) IllegalArgumentException
        int vote(int,int,int) IndexOutOfBoundsException,IllegalArgumentException
        int command(int) IllegalArgumentException,IllegalStateException
        int recycle(int) IndexOutOfBoundsException,IllegalStateException
        int advance(int) IllegalArgumentException,IllegalStateException
        int run() IllegalStateException
        int save(int) IndexOutOfBoundsException
        int restore(int) IndexOutOfBoundsException,IllegalStateException
        int append(int) IllegalArgumentException,IllegalStateException
        int clearBuffer()
        int firstError()
        int script() IllegalStateException
        int status(int) IllegalArgumentException
        int items(int) IllegalArgumentException
        int constraint(int,int) IndexOutOfBoundsException,IllegalArgumentException
        int expected(int) IndexOutOfBoundsException
        int liftoff()
        int slack(boolean)
        boolean isOpen(int) IllegalArgumentException
        int ifRecycled(int) IndexOutOfBoundsException
        int bestPoint()
        int ifAdvanced(int,int) IllegalArgumentException,IllegalStateException
        int log(int,int) IndexOutOfBoundsException,IllegalArgumentException
        double holdShare()
        long digest()
        """;
    private static final int MOST_CLASSES = 12;
    private static final int MOST_FIELDS = 20;
    private static final int MOST_PARAMETERS = 7;
    private static final String[] FORBIDDEN = {"->", "::", "catch", "finally", "synchronized", "assert", "Exact",
        "System.out", "hashCode", "package "};

    public static void main(String[] args) throws IOException {
        classes();
        methods();
        fields();
        sizes();
        source();
        Runs.end();
    }

    private static void classes() {
        int modifiers = LaunchCountdown.class.getModifiers();
        Runs.due("public and final", Modifier.isPublic(modifiers) && Modifier.isFinal(modifiers), true);
        for (Class<?> inside : LaunchCountdown.class.getDeclaredClasses()) {
            int own = inside.getModifiers();
            boolean right = Modifier.isStatic(own) && !Modifier.isPublic(own) && !Modifier.isProtected(own);
            Runs.due("the class " + inside.getSimpleName(), right, true);
        }
        Constructor<?>[] constructors = LaunchCountdown.class.getDeclaredConstructors();
        Runs.due("constructors", constructors.length, 1);
        Runs.due("public constructors", LaunchCountdown.class.getConstructors().length, 1);
        Runs.due("its parameters", constructors[0].getParameterCount(), 0);
    }

    private static void methods() {
        Set<String> open = new TreeSet<>();
        Set<String> openNames = new TreeSet<>();
        for (Method method : LaunchCountdown.class.getDeclaredMethods()) {
            if (Modifier.isPublic(method.getModifiers())) {
                open.add(line(method));
                openNames.add(method.getName());
                Runs.due(method.getName() + " is no static method", Modifier.isStatic(method.getModifiers()), false);
            }
        }
        Runs.due("the methods", open, new TreeSet<>(Arrays.asList(FACE.split("\n"))));
        for (Method method : LaunchCountdown.class.getDeclaredMethods()) {
            int modifiers = method.getModifiers();
            if (!Modifier.isPublic(modifiers)) {
                Runs.due(method.getName() + " is private", Modifier.isPrivate(modifiers), true);
                Runs.due(method.getName() + " has a name of its own", openNames.contains(method.getName()), false);
            }
        }
    }

    private static String line(Method method) {
        String line = method.getReturnType() + " " + method.getName() + "(" + names(method.getParameterTypes()) + ")";
        return (line + " " + names(method.getExceptionTypes())).trim();
    }

    private static String names(Class<?>[] types) {
        return Arrays.stream(types).map(Class::getSimpleName).collect(Collectors.joining(","));
    }

    private static void fields() {
        Runs.due("NONE", LaunchCountdown.NONE, -1);
        for (Field field : LaunchCountdown.class.getDeclaredFields()) {
            int modifiers = field.getModifiers();
            boolean open = Modifier.isPublic(modifiers) && Modifier.isStatic(modifiers) && Modifier.isFinal(modifiers);
            boolean right = field.getName().equals("NONE") ? open : Modifier.isPrivate(modifiers);
            Runs.due("the field " + field.getName(), right, true);
        }
    }

    /** LANGUAGE.md, rules 5 and 11, for the class and all classes inside it. */
    private static void sizes() {
        Class<?>[] inside = LaunchCountdown.class.getDeclaredClasses();
        Runs.due("at most some twelve classes", inside.length < MOST_CLASSES, true);
        size(LaunchCountdown.class);
        for (Class<?> one : inside) {
            size(one);
        }
    }

    private static void size(Class<?> one) {
        int fields = 0;
        for (Field field : one.getDeclaredFields()) {
            boolean isStatic = Modifier.isStatic(field.getModifiers());
            fields += isStatic ? 0 : 1;
            Runs.due(one + " has no static state", !isStatic || Modifier.isFinal(field.getModifiers()), true);
        }
        Runs.due(one + " has at most some twenty fields", fields <= MOST_FIELDS, true);
        for (Method method : one.getDeclaredMethods()) {
            Runs.due(method + " takes at most seven", method.getParameterCount() <= MOST_PARAMETERS, true);
        }
    }

    private static void source() throws IOException {
        String source = Files.readString(Path.of("src/main/java/LaunchCountdown.java"));
        for (String word : FORBIDDEN) {
            Runs.due("the source has no " + word, source.contains(word), false);
        }
    }
}
