/** Promises 12 to 14: cups, lectures, sunday. */
final class WouldBeTest {
    public static void main(String[] args) {
        cups();
        cupsRefused();
        lectures();
        lecturesRefused();
        sundays();
        sundaysRefused();
        Due.end();
    }

    private static void cupsOf(WakefulBed x, int lodger, int... want) {
        for (int hours = 1; hours <= want.length; hours++) {
            long before = x.digest();
            Due.due("cups(" + lodger + ", " + hours + ")", x.cups(lodger, hours), want[hours - 1]);
            Due.due("cups() changed nothing", x.digest(), before);
        }
    }

    private static void cups() {
        WakefulBed x = Due.house("l4,l2;1");
        cupsOf(x, 0, 1, 1, 2, -1, -1, -1);
        cupsOf(x, 1, 0, 0, 1, 1, -1, -1);
        cupsOf(Due.house("l9,l1;1"), 0, 3);
        cupsOf(Due.house("l8,w0;4"), 0, 0, 2, -1);
        cupsOf(Due.house("l8,w0;4"), 1, -1, -1);
        cupsOf(Due.house("l0,l0;4"), 1, -1);
        cupsOf(Due.house("v0,w0;1"), 0, 0, 0, 0, 0, 0, 0);
    }

    private static void cupsRefused() {
        WakefulBed x = Due.house("l9,l2;1");
        Due.refused(x, "cups(0, 0)", () -> x.cups(0, 0), WakefulBed.OUTSIDE);
        Due.refused(x, "cups(0, 7)", () -> x.cups(0, 7), WakefulBed.OUTSIDE);
        Due.refused(x, "cups(2, 0)", () -> x.cups(2, 0), WakefulBed.UNKNOWN);
        Due.refused(x, "cups(-1, 1)", () -> x.cups(-1, 1), WakefulBed.UNKNOWN);
        x.lecture(0);
        Due.refused(x, "cups(0, 1) of a sleeper", () -> x.cups(0, 1), WakefulBed.STATE);
        Due.refused(x, "cups(0, 7) of a sleeper", () -> x.cups(0, 7), WakefulBed.OUTSIDE);
        WakefulBed y = new WakefulBed();
        Due.refused(y, "cups(0, 1) without a house", () -> y.cups(0, 1), WakefulBed.UNKNOWN);
    }

    private static void lecturesOf(WakefulBed x, int lodger, int hours, int inBed, int first) {
        String call = "lectures(" + lodger + ", " + hours + ", ";
        int done = x.count(8);
        Due.due(call + "0)", x.lectures(lodger, hours, 0), inBed);
        Due.due(call + "1)", x.lectures(lodger, hours, 1), first);
        Due.due("count(8)", x.count(8), done + 2);
    }

    private static void lectures() {
        WakefulBed x = Due.house("l4,l2;1");
        lecturesOf(x, 0, 1, 1, 1);
        lecturesOf(x, 1, 1, 1, -1);
        lecturesOf(x, 0, 2, 2, 1);
        lecturesOf(x, 0, 3, 3, 1);
        Due.due("lectures() gave none", x.count(4), 6);
        Due.due("lectures() passed no hour", x.count(3), 0);
        Due.due("lectures() kept no bed hours", x.about(0, 4), 0);
        // The bed makes him drowsy: he loses it either behind the first hour, or asleep behind the second.
        lecturesOf(Due.house("l0,l0;4"), 0, 3, 2, -1);
        lecturesOf(Due.house("l0,l0;4"), 0, 2, 2, 1);
        // Only a lecture to the third one now makes room: 1 is behind 2 by no more than a lecture.
        lecturesOf(Due.house("w0,l3,l2;1"), 1, 1, 1, 2);
        // Both rivals are less tired by one: no single lecture gets rid of two.
        lecturesOf(Due.house("l3,l2,l2;1"), 0, 1, 0, -1);
        lecturesOf(Due.house("w0,w0;1"), 0, 3, 0, -1);
        WakefulBed y = Due.house("l9,l9;1");
        y.lecture(0);
        lecturesOf(y, 0, 3, 0, -1);
        lecturesOf(y, 1, 1, 1, -1);
    }

    private static void lecturesRefused() {
        WakefulBed x = Due.house("l4,l2;1");
        Due.refused(x, "lectures(2, 0, 2)", () -> x.lectures(2, 0, 2), WakefulBed.UNKNOWN);
        Due.refused(x, "lectures(-1, 1, 0)", () -> x.lectures(-1, 1, 0), WakefulBed.UNKNOWN);
        Due.refused(x, "lectures(0, 0, 0)", () -> x.lectures(0, 0, 0), WakefulBed.OUTSIDE);
        Due.refused(x, "lectures(0, 4, 0)", () -> x.lectures(0, 4, 0), WakefulBed.OUTSIDE);
        Due.refused(x, "lectures(0, 1, -1)", () -> x.lectures(0, 1, -1), WakefulBed.OUTSIDE);
        Due.refused(x, "lectures(0, 1, 2)", () -> x.lectures(0, 1, 2), WakefulBed.OUTSIDE);
        Due.due("a refused one is not done", x.count(8), 0);
        for (int done = 1; done <= 40; done++) {
            Due.due("lectures() " + done, x.lectures(0, 1, 1), 1);
        }
        Due.due("count(8)", x.count(8), 40);
        Due.refused(x, "lectures() 41", () -> x.lectures(0, 1, 1), WakefulBed.STATE);
        Due.refused(x, "lectures() 41, outside", () -> x.lectures(0, 4, 1), WakefulBed.OUTSIDE);
        Due.refused(x, "lectures() 41, unknown", () -> x.lectures(2, 1, 1), WakefulBed.UNKNOWN);
        WakefulBed y = new WakefulBed();
        Due.refused(y, "lectures() without a house", () -> y.lectures(0, 1, 1), WakefulBed.UNKNOWN);
    }

    private static void sundayOf(WakefulBed x, int pair, int hours) {
        long before = x.digest();
        Due.due("sunday(0)", x.sunday(0), pair);
        Due.due("sunday(1)", x.sunday(1), hours);
        Due.due("sunday() changed nothing", x.digest(), before);
    }

    private static void sundays() {
        WakefulBed x = Due.house("p0,v0;4");
        sundayOf(x, 1, 7);
        x.hour();
        sundayOf(x, 1, 3);
        sundayOf(Due.house("l0,m5,w0,m9;1"), 13, 60);
        sundayOf(Due.house("w0,l1;1"), -1, -1);
        sundayOf(Due.house("w0,w0;1"), -1, -1);
        sundayOf(Due.house("l9,l9;4"), 1, 1);
        sundayOf(Due.house("l2,l2,l1;1"), 1, 8);
        sundayOf(Due.house("l9,m5,v0,p0,v0;1"), 12, 20);
        WakefulBed y = Due.house("l9,l0,l5;1");
        y.lecture(0);
        sundayOf(y, 12, 5);
        y.lecture(2);
        y.lecture(2);
        y.lecture(2);
        sundayOf(y, -1, -1);
    }

    private static void sundaysRefused() {
        WakefulBed x = new WakefulBed();
        Due.refused(x, "sunday(0) without a house", () -> x.sunday(0), WakefulBed.STATE);
        Due.refused(x, "sunday(1) without a house", () -> x.sunday(1), WakefulBed.STATE);
        Due.refused(x, "sunday(2) without a house", () -> x.sunday(2), WakefulBed.OUTSIDE);
        WakefulBed y = Due.house("l4,l2;1");
        Due.refused(y, "sunday(-1)", () -> y.sunday(-1), WakefulBed.OUTSIDE);
        Due.refused(y, "sunday(2)", () -> y.sunday(2), WakefulBed.OUTSIDE);
    }
}
