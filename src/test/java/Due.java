import java.util.function.LongSupplier;

/** Compares answers with those that are due, and ends a test with exit code 1 if one was wrong. */
final class Due {
    private static int right = 0;
    private static int wrong = 0;
    private static String ahead = "";

    private Due() {
    }

    /** What is asked from here on is told as of this case. */
    static void begin(String caseName) {
        ahead = caseName + ": ";
    }

    static long asked() {
        return (long) right + wrong;
    }

    static void due(String what, long got, long want) {
        if (got == want) {
            right++;
        } else {
            wrong++;
            System.out.println(ahead + what + " answered " + got + ", due is " + want);
        }
    }

    /** The call answers that, and leaves all that digest() tells as it was. */
    static void refused(WakefulBed x, String what, LongSupplier call, long want) {
        long before = x.digest();
        due(what, call.getAsLong(), want);
        due(what + " changed nothing", x.digest(), before);
    }

    static void isTrue(String what, boolean holds) {
        due(what, holds ? 1 : 0, 1);
    }

    static void write(WakefulBed x, String text) {
        for (int place = 0; place < text.length(); place++) {
            x.letter(text.charAt(place));
        }
    }

    static WakefulBed house(String text) {
        WakefulBed x = new WakefulBed();
        write(x, text);
        due("house() of " + text, x.house(), (text.length() - 1) / 3);
        return x;
    }

    static void pass(WakefulBed x, int hours) {
        for (int passed = 0; passed < hours; passed++) {
            x.hour();
        }
    }

    static void end() {
        System.out.println(right + " answers right, " + wrong + " wrong");
        if (wrong != 0 || right == 0) {
            System.exit(1);
        }
    }
}
