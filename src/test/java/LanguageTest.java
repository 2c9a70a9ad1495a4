import com.sun.management.ThreadMXBean;
import java.lang.management.ManagementFactory;
import java.lang.reflect.Field;
import java.lang.reflect.InvocationTargetException;
import java.lang.reflect.Method;
import java.lang.reflect.Modifier;
import java.nio.file.Files;
import java.nio.file.Path;
import java.util.Arrays;
import java.util.List;
import java.util.Map;
import java.util.Set;
import java.util.TreeMap;
import java.util.TreeSet;
import java.util.regex.Matcher;
import java.util.regex.Pattern;
import java.util.stream.Collectors;

/** The public face, the rules of the language that a test can see, and that no call makes anything. */
final class LanguageTest {
    private static final List<String> FACE = List.of("int letter(int)", "int blank()", "int fault()", "int house()",
        "int about(int,int)", "int as(int,int)", "int bed()", "int coffee(int)", "int lecture(int)", "int hour()",
        "int cups(int,int)", "int lectures(int,int,int)", "int sunday(int)", "int see(int,int)", "int forget()",
        "int nights(int,int,int)", "int image()", "int restore()", "int count(int)", "long digest()");

    public static void main(String[] args) throws Exception {
        face();
        constants();
        names();
        words();
        lengths();
        depths();
        wildCalls();
        wildCallsInside();
        room();
        Due.end();
    }

    private static String told(Method method) {
        String parameters = Arrays.stream(method.getParameterTypes()).map(Class::getName)
            .collect(Collectors.joining(",", "(", ")"));
        return method.getReturnType().getName() + " " + method.getName() + parameters;
    }

    private static void face() throws Exception {
        Set<String> found = new TreeSet<>();
        for (Method method : WakefulBed.class.getDeclaredMethods()) {
            if (Modifier.isPublic(method.getModifiers())) {
                Due.isTrue(method + " is the object's", !Modifier.isStatic(method.getModifiers()));
                found.add(told(method));
            } else if (!method.isSynthetic()) {
                Due.isTrue(method + " is private", Modifier.isPrivate(method.getModifiers()));
            }
        }
        Due.isTrue("the face: " + found, found.equals(new TreeSet<>(FACE)));
        Due.isTrue("the class is public and final",
            (WakefulBed.class.getModifiers() & (Modifier.PUBLIC | Modifier.FINAL)) == (Modifier.PUBLIC | Modifier.FINAL));
        Due.due("constructors", WakefulBed.class.getDeclaredConstructors().length, 1);
        Due.isTrue("its constructor is public", Modifier.isPublic(
            WakefulBed.class.getDeclaredConstructor().getModifiers()));
        Due.isTrue("some twelve classes", WakefulBed.class.getDeclaredClasses().length <= 11);
        for (Class<?> inside : WakefulBed.class.getDeclaredClasses()) {
            Due.isTrue(inside + " is static, and not public", Modifier.isStatic(inside.getModifiers())
                && !Modifier.isPublic(inside.getModifiers()) && !Modifier.isProtected(inside.getModifiers()));
        }
    }

    private static void constants() {
        Due.due("NONE", WakefulBed.NONE, -1);
        Due.due("UNKNOWN", WakefulBed.UNKNOWN, -101);
        Due.due("OUTSIDE", WakefulBed.OUTSIDE, -102);
        Due.due("STATE", WakefulBed.STATE, -103);
        Due.due("FULL", WakefulBed.FULL, -104);
        Set<String> constants = Set.of("NONE", "UNKNOWN", "OUTSIDE", "STATE", "FULL");
        for (Field field : WakefulBed.class.getDeclaredFields()) {
            int flags = field.getModifiers();
            Due.isTrue(field + " is public", Modifier.isPublic(flags) == constants.contains(field.getName()));
            Due.isTrue(field + " is private or a constant", Modifier.isPrivate(flags) || Modifier.isPublic(flags));
            Due.isTrue(field + " is final if static", !Modifier.isStatic(flags) || Modifier.isFinal(flags));
        }
    }

    private static void names() {
        Set<String> ofFace = FACE.stream().map(told -> told.replaceAll(".* |\\(.*", "")).collect(Collectors.toSet());
        for (Class<?> inside : WakefulBed.class.getDeclaredClasses()) {
            for (Method method : inside.getDeclaredMethods()) {
                Due.isTrue(method + " has a name of its own", !ofFace.contains(method.getName()));
                Due.isTrue(method + " takes at most seven", method.getParameterCount() <= 7);
            }
        }
        for (Method method : WakefulBed.class.getDeclaredMethods()) {
            Due.isTrue(method + " has a name of its own",
                Modifier.isPublic(method.getModifiers()) || !ofFace.contains(method.getName()));
            Due.isTrue(method + " takes at most seven", method.getParameterCount() <= 7);
        }
    }

    private static String source() throws Exception {
        return Files.readString(
            Path.of(System.getProperty("project.root", "."), "src", "main", "java", "WakefulBed.java"));
    }

    private static void words() throws Exception {
        String source = source();
        for (String word : List.of("package ", "import ", "try ", "catch", "finally", "throw", "->", "::", "assert",
            "synchronized", "System.", "Exact(", "static {", "Object", "float", "double")) {
            Due.isTrue("the source has no '" + word + "'", !source.contains(word));
        }
    }

    /** The lines of each method, by its name; methods of one name in several classes are taken together. */
    private static Map<String, String> bodies() throws Exception {
        Map<String, String> bodies = new TreeMap<>();
        Matcher method = Pattern.compile("(?m)^( +)(?:(?:public|private|static) )*[a-zA-Z\\[\\]]+ (\\w+)\\([^)]*\\) \\{\n"
            + "((?:.*\n)*?)\\1\\}\n").matcher(source());
        while (method.find()) {
            Due.isTrue(method.group(2) + " has some sixty lines at most", method.group(3).lines().count() <= 60);
            bodies.merge(method.group(2), method.group(3), String::concat);
        }
        return bodies;
    }

    private static void lengths() throws Exception {
        Set<String> found = bodies().keySet();
        for (Method method : WakefulBed.class.getDeclaredMethods()) {
            Due.isTrue("the lines of " + method + " were found", found.contains(method.getName()));
        }
        for (Class<?> inside : WakefulBed.class.getDeclaredClasses()) {
            for (Method method : inside.getDeclaredMethods()) {
                Due.isTrue("the lines of " + method + " were found", found.contains(method.getName()));
            }
        }
    }

    private static void depths() throws Exception {
        Map<String, String> bodies = bodies();
        for (String told : FACE) {
            String name = told.replaceAll(".* |\\(.*", "");
            Due.isTrue(name + "() goes at most eight deep", depth(bodies, name, 1) <= 8);
        }
    }

    /** The most calls open at once from this one on, leaving out a method's calls of itself. */
    private static int depth(Map<String, String> bodies, String name, int open) {
        int deepest = open;
        Matcher called = Pattern.compile("\\b([a-z]\\w*)\\(").matcher(bodies.get(name));
        while (called.find() && open <= 20) {
            String other = called.group(1);
            if (bodies.containsKey(other) && !other.equals(name)) {
                deepest = Math.max(deepest, depth(bodies, other, open + 1));
            }
        }
        return deepest;
    }

    private static final int[] WILD = {Integer.MIN_VALUE, -65536, -104, -2, -1, 0, 1, 2, 3, 4, 5, 6, 9, 10, 12, 13, 18,
        19, 60, 61, 126, 65536, Integer.MAX_VALUE};

    /** Every method of the class itself in many states, with numbers that name nothing: nothing is thrown. */
    private static void wildCalls() throws Exception {
        for (String text : List.of("", "l", "l0,l0;1", "w9,w9;4", "l9,w2,v3,m4,p5;2", "p0,m0,v0,w0,l0;4")) {
            WakefulBed x = Cases.written(text);
            for (int round = 0; round < 3; round++) {
                for (Method method : WakefulBed.class.getDeclaredMethods()) {
                    method.setAccessible(true);
                    throwsNothing(method, x, x);
                }
                x.blank();
                Due.write(x, text);
                x.house();
                Due.pass(x, round);
            }
        }
    }

    /** Every method inside looks at its own numbers, whoever calls it. */
    private static void wildCallsInside() throws Exception {
        for (String name : List.of("page", "now", "seen", "plan", "guess")) {
            Field field = WakefulBed.class.getDeclaredField(name);
            for (Method method : field.getType().getDeclaredMethods()) {
                // A fresh object for each, as a wild number may well leave another with wild contents.
                for (WakefulBed x : List.of(new WakefulBed(), Cases.rich())) {
                    method.setAccessible(true);
                    throwsNothing(method, valueOf(x, field), x);
                }
            }
        }
    }

    private static boolean isNumber(Class<?> type) {
        return type == int.class || type == long.class;
    }

    private static Object valueOf(WakefulBed x, Field field) throws Exception {
        field.setAccessible(true);
        return field.get(x);
    }

    /** What a parameter that is no number may be: of a class inside, what x itself has of it. */
    private static Object given(Class<?> type, WakefulBed x) throws Exception {
        for (Field field : WakefulBed.class.getDeclaredFields()) {
            if (field.getType() == type) {
                return valueOf(x, field);
            }
        }
        return type == int[].class ? new int[13] : null;
    }

    private static void throwsNothing(Method method, Object object, WakefulBed x) throws Exception {
        Class<?>[] types = method.getParameterTypes();
        long numbers = Arrays.stream(types).filter(LanguageTest::isNumber).count();
        int runs = (int) Math.pow(WILD.length, numbers);
        String thrown = "";
        for (int run = 0; run < runs && thrown.isEmpty(); run++) {
            Object[] arguments = new Object[types.length];
            for (int place = 0, rest = run; place < types.length; place++) {
                boolean isWild = isNumber(types[place]);
                arguments[place] = isWild ? (Object) WILD[rest % WILD.length] : given(types[place], x);
                rest = isWild ? rest / WILD.length : rest;
            }
            try {
                method.invoke(object, arguments);
            } catch (InvocationTargetException caught) {
                thrown = Arrays.toString(arguments) + " threw " + caught.getCause();
            }
        }
        Due.isTrue(method + " throws nothing " + thrown, thrown.isEmpty());
    }

    /** All calls of a run live in one room: what the constructor made has to do for all of them. */
    private static void room() {
        ThreadMXBean threads = (ThreadMXBean) ManagementFactory.getThreadMXBean();
        long self = Thread.currentThread().getId();
        WakefulBed x = Due.house("l4,p3,v5,m2,l1;2");
        long answers = everyCall(x);
        long before = threads.getThreadAllocatedBytes(self);
        for (int round = 0; round < 20; round++) {
            answers += everyCall(x);
        }
        long made = threads.getThreadAllocatedBytes(self) - before;
        // Measuring itself may make a little; a call that made even one object a round would show.
        Due.isTrue("bytes made by 20 rounds of calls: " + made + " (" + answers + ")", made < 300);
    }

    private static long everyCall(WakefulBed x) {
        long answers = x.blank() + x.letter('l') + x.fault() + x.house();
        answers += x.as(4, 2) + x.bed() + x.coffee(0) + x.lecture(1) + x.hour();
        answers += x.cups(0, 6) + x.lectures(0, 3, 1) + x.sunday(0);
        answers += x.see(3, 2) + x.about(1, 5) + x.about(1, 6) + x.nights(60, 5, 0) + x.forget();
        answers += x.image() + x.restore() + x.count(4) + x.digest();
        return answers;
    }
}
