/** Promises 15 to 17 (see, forget, nights), and what about() tells by what is seen. */
final class SeenTest {
    public static void main(String[] args) {
        sights();
        sightsRefused();
        howTired();
        looks();
        nights();
        nightsRefused();
        Due.end();
    }

    private static void sights() {
        WakefulBed x = Due.house("l4,l2;1");
        Due.due("forget() of nothing", x.forget(), 0);
        Due.due("see(0, 0)", x.see(0, 0), 1);
        Due.due("see(12, 1)", x.see(12, 1), 2);
        Due.due("see(3, -1)", x.see(3, -1), 3);
        Due.due("see(3, -1) again", x.see(3, -1), 4);
        Due.due("count(5)", x.count(5), 4);
        Due.due("forget()", x.forget(), 4);
        Due.due("count(5) behind it", x.count(5), 0);
        Due.due("see() behind it", x.see(0, 0), 1);
        WakefulBed y = new WakefulBed();
        Due.due("see(0, -1) without a house", y.see(0, -1), 1);
        Due.refused(y, "see(0, 0) without a house", () -> y.see(0, 0), WakefulBed.UNKNOWN);
        Due.due("forget() without a house", y.forget(), 1);
    }

    private static void sightsRefused() {
        WakefulBed x = Due.house("l4,l2;1");
        Due.refused(x, "see(-1, 0)", () -> x.see(-1, 0), WakefulBed.OUTSIDE);
        Due.refused(x, "see(13, 0)", () -> x.see(13, 0), WakefulBed.OUTSIDE);
        Due.refused(x, "see(13, 2)", () -> x.see(13, 2), WakefulBed.OUTSIDE);
        Due.refused(x, "see(12, 2)", () -> x.see(12, 2), WakefulBed.UNKNOWN);
        Due.refused(x, "see(0, -2)", () -> x.see(0, -2), WakefulBed.UNKNOWN);
        for (int size = 1; size <= 6; size++) {
            Due.due("see() " + size, x.see(size, 0), size);
        }
        Due.refused(x, "see() 7", () -> x.see(0, 0), WakefulBed.FULL);
        Due.refused(x, "see() 7, unknown", () -> x.see(0, 2), WakefulBed.UNKNOWN);
        Due.refused(x, "see() 7, outside", () -> x.see(13, 2), WakefulBed.OUTSIDE);
    }

    private static void howTired() {
        WakefulBed x = Due.house("l4,l2;1");
        Due.due("nothing seen", x.about(0, 5), 1023);
        x.see(0, 0);
        Due.due("0 has it, of 0", x.about(0, 5), 7);
        Due.due("0 has it, of 1", x.about(1, 5), 1008);
        x.see(1, 1);
        // Of 0: behind an hour he is 2 more, and 1 is at 3: he keeps it at 0 and 1 (like ones go to 0).
        Due.due("then 1 has it, of 0", x.about(0, 5), 4);
        x.see(2, -1);
        Due.due("then nobody, of 0", x.about(0, 5), 0);
        Due.due("look of none", x.about(0, 6), -1);

        WakefulBed sleeper = Due.house("w0,l9;1");
        sleeper.lecture(1);
        Due.due("a sleeper, nothing seen", sleeper.about(1, 5), 1023);
        sleeper.see(0, 1);
        Due.due("a sleeper is taken as awake", sleeper.about(1, 5), 1023);
        Due.due("another one sleeps on", sleeper.about(0, 5), 0);

        WakefulBed last = Due.house("w0,m0;1");
        last.see(12, 1);
        // From 8 he sleeps at hour 2, wakes at 5, and sleeps at 12; from 9 all that is an hour earlier.
        Due.due("behind 12 hours", last.about(1, 5), 255);
        Due.due("behind 12 hours, of the watchman", last.about(0, 5), 1023);

        // The bed is seen from whatever now is: an hour on, the same sights are asked of the new hour.
        WakefulBed moved = Due.house("w0,l0;1");
        moved.see(4, -1);
        Due.due("4 hours from hour 0", moved.about(1, 5), 0b0011111100);
        moved.hour();
        Due.due("4 hours from hour 1", moved.about(1, 5), 0b0011111100);
    }

    private static void looks() {
        WakefulBed x = Due.house("w0,l3;1");
        Due.due("all looks alike", x.about(0, 6), 0);
        // Behind 2 hours 0 to 5 have the bed, and 6 to 9 sleep: 6 are left at worst, never fewer.
        Due.due("look of ten", x.about(1, 6), 2);
        x.see(1, -1);
        Due.due("8 and 9", x.about(1, 5), 768);
        Due.due("look of two who are alike", x.about(1, 6), 0);
        x.see(1, 1);
        Due.due("look of none", x.about(1, 6), -1);
        WakefulBed three = Due.house("l4,l2;1");
        three.see(0, 0);
        // Of 0, 1 and 2 two keep the bed for an hour; no later hour tells all three apart.
        Due.due("look of three", three.about(0, 6), 1);
        long before = x.digest();
        x.about(1, 5);
        x.about(1, 6);
        Due.due("looking changes nothing", x.digest(), before);
    }

    private static void nights() {
        WakefulBed x = Due.house("l3,l2;1");
        long before = x.digest();
        Due.due("nights(1, 0, 0)", x.nights(1, 0, 0), 1);
        Due.due("nights(1, 0, 2)", x.nights(1, 0, 2), 1406932606);
        Due.due("nights(2, 0, 0)", x.nights(2, 0, 0), 2);
        Due.due("nights(2, 0, 1)", x.nights(2, 0, 1), 0);
        Due.due("nights(2, 0, 2)", x.nights(2, 0, 2), 1449466924);
        Due.due("nights(1, 2147483647, 2)", x.nights(1, Integer.MAX_VALUE, 2), 288979989);
        Due.due("nights() changed nothing", x.digest(), before);
        // The same draws: coffee makes 0 like 1, and the lecture takes the bed from him.
        Due.due("a lecture behind the coffee", Due.house("l3,l0;1").nights(1, 0, 0), 0);
        WakefulBed two = Due.house("w9,w9;1");
        Due.due("watchmen sleep", two.nights(1, 0, 1), 1);
        Due.due("the watchman 0 never has it", two.nights(60, 0, 0), 0);
    }

    private static void nightsRefused() {
        WakefulBed x = Due.house("l3,l2;1");
        Due.refused(x, "nights(0, 0, 0)", () -> x.nights(0, 0, 0), WakefulBed.OUTSIDE);
        Due.refused(x, "nights(61, 0, 0)", () -> x.nights(61, 0, 0), WakefulBed.OUTSIDE);
        Due.refused(x, "nights(1, -1, 0)", () -> x.nights(1, -1, 0), WakefulBed.OUTSIDE);
        Due.refused(x, "nights(1, 0, -1)", () -> x.nights(1, 0, -1), WakefulBed.OUTSIDE);
        Due.refused(x, "nights(1, 0, 3)", () -> x.nights(1, 0, 3), WakefulBed.OUTSIDE);
        WakefulBed y = new WakefulBed();
        Due.refused(y, "nights() without a house", () -> y.nights(1, 0, 0), WakefulBed.STATE);
        Due.refused(y, "nights() outside, without a house", () -> y.nights(1, 0, 3), WakefulBed.OUTSIDE);
    }
}
