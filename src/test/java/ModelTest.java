import java.util.Random;

/** Runs of 512 calls, ordinary, at the edges and wrong ones, on the class and on the model: all answers are alike. */
final class ModelTest {
    private static final int RUNS = 400, CALLS = 512;
    private static final int[] ODD = {-2, -1, 0, 1, 5, 6, 7, 9, 12, 13, 18, 60, 61, 127, Integer.MIN_VALUE,
        Integer.MAX_VALUE};

    public static void main(String[] args) {
        for (int run = 0; run < RUNS; run++) {
            new ModelTest(run).go();
        }
        Due.end();
    }

    private final Random random;
    private final int run;
    private final WakefulBed x = new WakefulBed();
    private final Model y = new Model();
    private int calls = 0;

    private ModelTest(int run) {
        this.run = run;
        random = new Random(run);
    }

    private void go() {
        while (calls < CALLS) {
            if (calls == 0 || random.nextInt(60) == 0) {
                writeHouse();
            }
            call(random.nextInt(22));
        }
        same("digest()", x.digest(), y.digest());
    }

    private void same(String call, long got, long want) {
        calls++;
        Due.due("run " + run + ", call " + calls + ": " + call, got, want);
    }

    private int pick(int least, int most) {
        return random.nextInt(25) == 0 ? ODD[random.nextInt(ODD.length)] : least + random.nextInt(most - least + 1);
    }

    private int lodger() {
        return pick(0, Math.max(0, y.count(0) - 1));
    }

    private void put(int code) {
        same("letter(" + code + ")", x.letter(code), y.letter(code));
    }

    private void writeHouse() {
        if (random.nextInt(4) != 0) {
            same("blank()", x.blank(), y.blank());
        }
        StringBuilder text = new StringBuilder();
        int lodgers = 2 + random.nextInt(4);
        for (int lodger = 0; lodger < lodgers; lodger++) {
            text.append(lodger == 0 ? "" : ",");
            text.append("lwvmp".charAt(random.nextInt(5))).append(random.nextInt(10));
        }
        text.append(';').append(1 + random.nextInt(4));
        if (random.nextInt(3) == 0) {
            text.setCharAt(random.nextInt(text.length()), "lwvmpx0459,; ".charAt(random.nextInt(13)));
        }
        if (random.nextInt(5) == 0) {
            text.append("lwvmpx0459,; ".charAt(random.nextInt(13)));
        }
        for (int place = 0; place < text.length(); place++) {
            put(text.charAt(place));
        }
        same("fault()", x.fault(), y.fault());
        same("house()", x.house(), y.house());
    }

    private void call(int which) {
        int a = lodger();
        int b;
        int c;
        switch (which) {
            case 0 -> put(pick(32, 126));
            case 1 -> same("fault()", x.fault(), y.fault());
            case 2 -> {
                b = pick(0, 6);
                same("about(" + a + ", " + b + ")", x.about(a, b), y.about(a, b));
            }
            case 3 -> {
                b = pick(0, 4);
                same("as(" + a + ", " + b + ")", x.as(a, b), y.as(a, b));
            }
            case 4 -> same("bed()", x.bed(), y.bed());
            case 5 -> same("coffee(" + a + ")", x.coffee(a), y.coffee(a));
            case 6 -> same("lecture(" + a + ")", x.lecture(a), y.lecture(a));
            case 7, 8, 9 -> same("hour()", x.hour(), y.hour());
            case 10 -> {
                b = pick(1, 6);
                same("cups(" + a + ", " + b + ")", x.cups(a, b), y.cups(a, b));
            }
            case 11 -> {
                b = pick(1, 3);
                c = pick(0, 1);
                same("lectures(" + a + ", " + b + ", " + c + ")", x.lectures(a, b, c), y.lectures(a, b, c));
            }
            case 12 -> {
                b = pick(0, 1);
                same("sunday(" + b + ")", x.sunday(b), y.sunday(b));
            }
            case 13, 14 -> {
                b = pick(0, 12);
                c = random.nextInt(4) == 0 ? -1 : a;
                same("see(" + b + ", " + c + ")", x.see(b, c), y.see(b, c));
            }
            case 15 -> same("forget()", x.forget(), y.forget());
            case 16, 17 -> {
                b = pick(1, 60);
                a = pick(0, 2);
                c = random.nextInt();
                c = random.nextInt(10) == 0 ? c : c & 0x7fffffff;
                same("nights(" + b + ", " + c + ", " + a + ")", x.nights(b, c, a), y.nights(b, c, a));
            }
            case 18 -> same("image()", x.image(), y.image());
            case 19 -> same("restore()", x.restore(), y.restore());
            case 20 -> {
                b = pick(0, 8);
                same("count(" + b + ")", x.count(b), y.count(b));
            }
            default -> same("digest()", x.digest(), y.digest());
        }
    }
}
