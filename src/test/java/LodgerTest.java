/** Promises 6 to 11: about, as, bed, coffee, lecture, hour. */
final class LodgerTest {
    public static void main(String[] args) {
        abouts();
        casts();
        beds();
        coffees();
        lecturesGiven();
        hoursByKind();
        sleep();
        noHouse();
        Due.end();
    }

    private static void tired(String when, WakefulBed x, int... want) {
        for (int lodger = 0; lodger < want.length; lodger++) {
            Due.due(when + ": tired of " + lodger, x.about(lodger, 1), want[lodger]);
        }
    }

    private static void abouts() {
        WakefulBed x = Due.house("l4,w0,v5;2");
        Due.due("about(0, 3)", x.about(0, 3), 1);
        Due.due("about(1, 3)", x.about(1, 3), 0);
        Due.due("about(2, 3)", x.about(2, 3), 0);
        x.hour();
        Due.due("about(0, 3) behind an hour", x.about(0, 3), 0);
        Due.due("about(2, 3) behind an hour", x.about(2, 3), 1);
        Due.due("about(0, 4)", x.about(0, 4), 1);
        Due.due("about(2, 4)", x.about(2, 4), 0);
        int[] unknown = {-1, 3, 5, Integer.MIN_VALUE, Integer.MAX_VALUE};
        for (int lodger : unknown) {
            Due.refused(x, "about(" + lodger + ", 0)", () -> x.about(lodger, 0), WakefulBed.UNKNOWN);
            Due.refused(x, "about(" + lodger + ", 7)", () -> x.about(lodger, 7), WakefulBed.UNKNOWN);
        }
        int[] outside = {-1, 7, Integer.MIN_VALUE, Integer.MAX_VALUE};
        for (int what : outside) {
            Due.refused(x, "about(0, " + what + ")", () -> x.about(0, what), WakefulBed.OUTSIDE);
        }
    }

    private static void casts() {
        WakefulBed x = Due.house("l1,w1,v1,m1,p1;1");
        for (int lodger = 0; lodger < 5; lodger++) {
            for (int kind = 0; kind < 5; kind++) {
                boolean isSuch = kind == 0 || kind == lodger || lodger == 4 && kind == 2;
                Due.due("as(" + lodger + ", " + kind + ")", x.as(lodger, kind), isSuch ? lodger : -1);
            }
        }
        Due.refused(x, "as(0, -1)", () -> x.as(0, -1), WakefulBed.OUTSIDE);
        Due.refused(x, "as(0, 5)", () -> x.as(0, 5), WakefulBed.OUTSIDE);
        Due.refused(x, "as(5, 5)", () -> x.as(5, 5), WakefulBed.UNKNOWN);
        Due.refused(x, "as(-1, 0)", () -> x.as(-1, 0), WakefulBed.UNKNOWN);
    }

    private static void beds() {
        Due.due("the least tired", Due.house("l4,m3,p5;1").bed(), 1);
        Due.due("of like ones the least", Due.house("l4,m3,p3;1").bed(), 1);
        Due.due("no watchman", Due.house("w0,w1,l9;1").bed(), 2);
        Due.due("watchmen alone", Due.house("w0,w1;1").bed(), -1);
        WakefulBed x = Due.house("l9,l9,l9;1");
        x.lecture(0);
        Due.due("no sleeper", x.bed(), 1);
        x.lecture(1);
        x.lecture(2);
        Due.due("sleepers alone", x.bed(), -1);
    }

    private static void coffees() {
        WakefulBed x = Due.house("l9,w2,p9;1");
        Due.due("coffee at 9", x.coffee(0), 6);
        Due.due("coffee at 6", x.coffee(0), 3);
        Due.due("coffee at 3", x.coffee(0), 0);
        Due.due("coffee at 0", x.coffee(0), 0);
        Due.due("coffee at 2, of a watchman", x.coffee(1), 0);
        tired("coffee is for one", x, 0, 0, 9);
        Due.due("coffee is no hour", x.count(3), 0);
        x.lecture(2);
        Due.refused(x, "coffee of a sleeper", () -> x.coffee(2), WakefulBed.STATE);
        Due.refused(x, "coffee(3)", () -> x.coffee(3), WakefulBed.UNKNOWN);
        Due.refused(x, "coffee(-1)", () -> x.coffee(-1), WakefulBed.UNKNOWN);
    }

    private static void lecturesGiven() {
        WakefulBed x = Due.house("l9,w7,p8;1");
        Due.due("lecture at 7, to a watchman", x.lecture(1), 9);
        Due.due("9 is awake", x.about(1, 2), 0);
        Due.due("lecture at 9", x.lecture(0), 10);
        Due.due("asleep at once", x.about(0, 2), 1);
        Due.due("lecture at 8", x.lecture(2), 10);
        Due.due("asleep at once, too", x.about(2, 2), 1);
        Due.due("count(2)", x.count(2), 2);
        Due.refused(x, "lecture to a sleeper", () -> x.lecture(0), WakefulBed.STATE);
        Due.refused(x, "lecture(3)", () -> x.lecture(3), WakefulBed.UNKNOWN);
        Due.refused(x, "lecture(-1)", () -> x.lecture(-1), WakefulBed.UNKNOWN);
        Due.due("count(8) is of lectures() alone", x.count(8), 0);
        WakefulBed y = Due.house("l0,l0;1");
        Due.due("lecture at 0", y.lecture(1), 2);
        tired("a lecture is for one", y, 0, 2);
    }

    private static void hoursByKind() {
        WakefulBed lodgers = Due.house("l0,l5;1");
        Due.due("hour()", lodgers.hour(), 0);
        tired("lodgers", lodgers, 2, 6);

        WakefulBed lover = Due.house("v3,l0;1");
        lover.hour();
        tired("lover, hour 1", lover, 3, 2);
        lover.hour();
        tired("lover, hour 2", lover, 4, 4);
        lover.hour();
        tired("lover in bed, hour 3", lover, 5, 5);
        lover.hour();
        tired("lover in bed, hour 4", lover, 7, 6);

        WakefulBed mourner = Due.house("m5,l0;4");
        mourner.hour();
        tired("mourner at 5", mourner, 6, 5);
        Due.due("hour()", mourner.hour(), 1);
        tired("mourner at 6", mourner, 6, 10);
        Due.due("hour()", mourner.hour(), 2);
        tired("mourner in bed at 6", mourner, 10, 7);
        WakefulBed byBed = Due.house("m5,l9;1");
        byBed.hour();
        tired("a mourner whom the bed made 6", byBed, 6, 10);
        WakefulBed below = Due.house("m4,l9;1");
        below.hour();
        tired("a mourner whom the bed made 5", below, 6, 10);

        WakefulBed poet = Due.house("p0,l9;1");
        poet.hour();
        tired("poet in bed, hour 1", poet, 2, 10);
        poet.hour();
        tired("poet in bed, hour 2", poet, 5, 7);
        WakefulBed out = Due.house("p5,l0;1");
        out.hour();
        tired("poet out of bed, hour 1", out, 5, 2);
        out.hour();
        tired("poet out of bed, hour 2", out, 6, 4);
    }

    private static void sleep() {
        WakefulBed x = Due.house("w0,l5;2");
        Due.due("hour 1", x.hour(), 0);
        tired("hour 1", x, 1, 8);
        Due.due("hour 2", x.hour(), 1);
        tired("hour 2", x, 2, 10);
        Due.due("nobody's", x.bed(), -1);
        Due.due("hour 3", x.hour(), 1);
        tired("hour 3", x, 3, 7);
        Due.due("hour 4", x.hour(), 1);
        tired("hour 4", x, 4, 4);
        Due.due("hour 5", x.hour(), 0);
        tired("hour 5", x, 5, 1);
        Due.due("awake again", x.bed(), 1);
        Due.due("bed hours", x.about(1, 4), 2);
        Due.due("a watchman's bed hours", x.about(0, 4), 0);
        Due.due("count(3)", x.count(3), 5);
    }

    private static void noHouse() {
        WakefulBed x = new WakefulBed();
        Due.refused(x, "hour() without a house", x::hour, WakefulBed.STATE);
        Due.refused(x, "bed() without a house", x::bed, WakefulBed.STATE);
        Due.refused(x, "coffee(0) without a house", () -> x.coffee(0), WakefulBed.UNKNOWN);
        Due.refused(x, "lecture(0) without a house", () -> x.lecture(0), WakefulBed.UNKNOWN);
        Due.refused(x, "as(0, 0) without a house", () -> x.as(0, 0), WakefulBed.UNKNOWN);
        Due.refused(x, "about(0, 9) without a house", () -> x.about(0, 9), WakefulBed.UNKNOWN);
    }
}
