import java.lang.reflect.InvocationTargetException;
import java.lang.reflect.Method;
import java.lang.reflect.Modifier;
import java.util.ArrayList;
import java.util.Comparator;
import java.util.List;
import java.util.function.Supplier;
import java.util.function.ToLongFunction;

/** Boundary cases: each static method without parameters of a class is a test of its own, told by its name. */
final class Cases {
    private Cases() {
    }

    static void run(Class<?> tests) throws IllegalAccessException {
        List<Method> cases = casesOf(tests);
        for (Method one : cases) {
            long asked = Due.asked();
            Due.begin(one.getName());
            one.setAccessible(true);
            try {
                one.invoke(null);
            } catch (InvocationTargetException thrown) {
                Due.isTrue("nothing is thrown, but was " + thrown.getCause(), false);
            }
            // A case that asks nothing would pass whatever the class does.
            Due.isTrue("it asks something", Due.asked() > asked);
        }
        System.out.println(cases.size() + " cases");
        Due.end();
    }

    private static List<Method> casesOf(Class<?> tests) {
        List<Method> cases = new ArrayList<>();
        for (Method method : tests.getDeclaredMethods()) {
            if (Modifier.isStatic(method.getModifiers()) && !method.isSynthetic() && method.getParameterCount() == 0
                && method.getReturnType() == void.class) {
                cases.add(method);
            }
        }
        cases.sort(Comparator.comparing(Method::getName));
        return cases;
    }

    /**
     * The call answers that, and all that the object holds is then as in one that was never asked. What digest()
     * leaves out (the IMAGE, what exactly is SEEN) is brought out by calls that change the object, so two are made.
     */
    static void refuses(Supplier<WakefulBed> made, String what, ToLongFunction<WakefulBed> call, long want) {
        WakefulBed asked = made.get();
        WakefulBed untouched = made.get();
        Due.due(what, call.applyAsLong(asked), want);
        Due.isTrue(what + " changed nothing", allOf(asked).equals(allOf(untouched)));
    }

    private static String allOf(WakefulBed x) {
        StringBuilder all = new StringBuilder();
        tell(x, all);
        for (int passed = 0; passed < 3; passed++) {
            all.append(x.hour()).append(' ').append(x.digest()).append(' ');
        }
        all.append(x.restore()).append('\n');
        tell(x, all);
        all.append(x.forget()).append(' ').append(x.blank()).append(' ').append(x.digest());
        return all.toString();
    }

    private static void tell(WakefulBed x, StringBuilder all) {
        all.append(x.digest()).append(' ').append(x.fault()).append(' ').append(x.bed()).append('\n');
        for (int what = 0; what <= 8; what++) {
            all.append(x.count(what)).append(' ');
        }
        for (int lodger = 0; lodger < x.count(0); lodger++) {
            for (int what = 0; what <= 6; what++) {
                all.append(x.about(lodger, what)).append(' ');
            }
            all.append(x.cups(lodger, 1)).append(' ').append(x.lectures(lodger, 2, 1)).append('\n');
        }
        all.append(x.sunday(0)).append(' ').append(x.sunday(1)).append(' ').append(x.nights(9, 77, 1)).append('\n');
    }

    /**
     * A house that has a bit of everything: it is hour 2, 0 is asleep, 3 has the bed, two things are SEEN, an IMAGE
     * of hour 1 is kept, lectures() was done once, and three letters are on THE PAGE.
     */
    static WakefulBed rich() {
        WakefulBed x = Due.house("l9,w2,v3,m4,p5;2");
        x.see(1, 4);
        x.hour();
        x.see(2, -1);
        x.image();
        x.hour();
        x.lectures(3, 2, 0);
        Due.write(x, "l4,");
        return x;
    }

    static WakefulBed written(String text) {
        WakefulBed x = new WakefulBed();
        Due.write(x, text);
        return x;
    }
}
