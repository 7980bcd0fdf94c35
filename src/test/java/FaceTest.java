import java.lang.reflect.Constructor;
import java.lang.reflect.Field;
import java.lang.reflect.Method;
import java.lang.reflect.Modifier;
import java.nio.file.Files;
import java.nio.file.Path;
import java.util.ArrayList;
import java.util.HashSet;
import java.util.List;
import java.util.Set;
import java.util.TreeSet;

/** The face of the class, as the document gives it, and those rules of LANGUAGE.md that can be seen from outside. */
final class FaceTest {
    private static final String B = " throws IndexOutOfBoundsException";
    private static final String A = " throws IllegalArgumentException";
    private static final String S = " throws IllegalStateException";
    private static final String SB = S + ",IndexOutOfBoundsException";
    private static final List<String> FACE = List.of(
            "int event(int)" + B + ",IllegalStateException",
            "int endTrace(int)" + A + ",IllegalStateException",
            "int setTimes(int,int)" + B + ",IllegalArgumentException",
            "int dropTrace()" + S, "int traceCount()", "int length(int)" + B, "int labelAt(int,int)" + B,
            "int labels()", "int follows(int,int)" + B, "int edges(boolean)", "int relation(int,int)" + B,
            "boolean leads(int,int)" + B, "int variants()", "int mine()", "int kind(int)" + SB,
            "int labelsOf(int)" + SB, "int parent(int)" + SB, "int children(int)" + SB, "int child(int,int)" + SB,
            "int shortest(int)" + SB, "int height()" + S, "boolean accepts(int)" + SB, "boolean acceptsBuffer()" + S,
            "double fitness()" + S, "int words(int)" + S + ",IllegalArgumentException", "long digest()");
    private static final List<String> RULED_OUT = List.of("import", "->", "::", "try", "catch", "finally", "assert",
            "synchronized", "List<", "System.", "float", "instanceof", "long[][]", "Exact(", "package ", "static {");

    private FaceTest() {
    }

    public static void main(String[] args) throws Exception {
        checkFace();
        checkClasses();
        checkSource(Path.of(args.length > 0 ? args[0] : "src/main/java/ProcessMiner.java"));
        Check.finish("FaceTest");
    }

    private static void checkFace() {
        int modifiers = ProcessMiner.class.getModifiers();
        Check.due("public and final", Modifier.isPublic(modifiers) && Modifier.isFinal(modifiers), true);
        Check.due("its superclass", ProcessMiner.class.getSuperclass(), Object.class);
        Check.due("its interfaces", ProcessMiner.class.getInterfaces().length, 0);
        Set<String> found = new TreeSet<>();
        for (Method method : ProcessMiner.class.getDeclaredMethods()) {
            if (!Modifier.isPrivate(method.getModifiers())) {
                found.add((Modifier.isPublic(method.getModifiers()) ? "" : "not public: ") + signature(method));
            }
        }
        Check.due("the methods", found, new TreeSet<>(FACE));
        for (Field field : ProcessMiner.class.getDeclaredFields()) {
            Check.due("private " + field, Modifier.isPrivate(field.getModifiers()), true);
        }
        Constructor<?>[] constructors = ProcessMiner.class.getDeclaredConstructors();
        Check.due("one constructor", constructors.length, 1);
        Check.due("it is public", Modifier.isPublic(constructors[0].getModifiers()), true);
        Check.due("its parameters", constructors[0].getParameterCount(), 0);
    }

    private static String signature(Method method) {
        List<String> parameters = new ArrayList<>();
        for (Class<?> type : method.getParameterTypes()) {
            parameters.add(type.getSimpleName());
        }
        List<String> exceptions = new ArrayList<>();
        for (Class<?> type : method.getExceptionTypes()) {
            exceptions.add(type.getSimpleName());
        }
        return method.getReturnType().getSimpleName() + " " + method.getName() + "(" + String.join(",", parameters)
                + ")" + (exceptions.isEmpty() ? "" : " throws " + String.join(",", exceptions));
    }

    private static void checkClasses() {
        List<Class<?>> classes = new ArrayList<>(List.of(ProcessMiner.class.getDeclaredClasses()));
        Check.due("at most twelve classes", classes.size() < 12, true);
        Set<String> publicNames = new HashSet<>();
        FACE.forEach(s -> publicNames.add(s.substring(s.indexOf(' ') + 1, s.indexOf('('))));
        for (Class<?> inner : classes) {
            int modifiers = inner.getModifiers();
            Check.due(inner + " is static and not public",
                    Modifier.isStatic(modifiers) && !Modifier.isPublic(modifiers), true);
            for (Method method : inner.getDeclaredMethods()) {
                Check.due(method + " bears a public name", publicNames.contains(method.getName()), false);
            }
        }
        classes.add(ProcessMiner.class);
        for (Class<?> each : classes) {
            int fields = 0;
            for (Field field : each.getDeclaredFields()) {
                fields += Modifier.isStatic(field.getModifiers()) ? 0 : 1;
                Check.due("static and not final " + field, isChangeableStatic(field), false);
            }
            Check.due(each + " has at most twenty fields", fields <= 20, true);
            for (Method method : each.getDeclaredMethods()) {
                Check.due(method + " has at most 7 parameters", method.getParameterCount() <= 7, true);
            }
        }
    }

    private static boolean isChangeableStatic(Field field) {
        return Modifier.isStatic(field.getModifiers()) && !Modifier.isFinal(field.getModifiers());
    }

    private static void checkSource(Path file) throws Exception {
        int number = 0;
        for (String line : Files.readAllLines(file)) {
            number++;
            boolean isComment = line.trim().startsWith("//") || line.trim().startsWith("*")
                    || line.trim().startsWith("/**");
            for (String word : RULED_OUT) {
                Check.due("line " + number + " has " + word, !isComment && line.contains(word), false);
            }
        }
    }
}
