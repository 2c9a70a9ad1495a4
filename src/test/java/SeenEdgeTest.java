import java.math.BigInteger;

/** The boundary cases of "SEEN", "NIGHTS" and of promises 15 to 17, each a test of its own. */
final class SeenEdgeTest {
    private static final int LEAST = Integer.MIN_VALUE, MOST = Integer.MAX_VALUE;

    public static void main(String[] args) throws Exception {
        Cases.run(SeenEdgeTest.class);
    }

    // ---- promise 15: see

    static void seeHoursBelow0OrAbove12() {
        for (int hours : new int[] {LEAST, -1, 13, MOST}) {
            Cases.refuses(Cases::rich, "see(" + hours + ", 0)", x -> x.see(hours, 0), WakefulBed.OUTSIDE);
        }
    }

    static void seeHours0AndHours12() {
        WakefulBed x = Due.house("l0,l0;1");
        Due.due("see(0, 0)", x.see(0, 0), 1);
        Due.due("see(12, 0)", x.see(12, 0), 2);
    }

    static void seeLodgerThatIsNone() {
        for (int lodger : new int[] {LEAST, -101, -2, 5, 6, MOST}) {
            Cases.refuses(Cases::rich, "see(0, " + lodger + ")", x -> x.see(0, lodger), WakefulBed.UNKNOWN);
        }
        Cases.refuses(() -> Due.house("l0,l0;1"), "see(0, 2)", x -> x.see(0, 2), WakefulBed.UNKNOWN);
    }

    static void seeTheFirstAndTheLastLodgerAndNobody() {
        WakefulBed x = Due.house("l0,l0,l0,l0,l0;1");
        Due.due("see(0, 0)", x.see(0, 0), 1);
        Due.due("see(0, 4)", x.see(0, 4), 2);
        Due.due("see(0, NONE)", x.see(0, WakefulBed.NONE), 3);
    }

    static void seeAWatchmanOrASleeperIsNotRefused() {
        WakefulBed x = Cases.rich();
        Due.due("see() of a watchman", x.see(0, 1), 3);
        Due.due("see() of a sleeper", x.see(0, 0), 4);
        Due.due("nothing can be so", x.about(3, 5), 0);
    }

    static void seeWithoutAHouse() {
        Due.due("see(0, NONE)", new WakefulBed().see(0, WakefulBed.NONE), 1);
        Cases.refuses(WakefulBed::new, "see(0, 0)", x -> x.see(0, 0), WakefulBed.UNKNOWN);
        Cases.refuses(WakefulBed::new, "see(13, 0)", x -> x.see(13, 0), WakefulBed.OUTSIDE);
    }

    private static WakefulBed fullOfSights() {
        WakefulBed x = Due.house("l4,l2;1");
        x.see(0, 1);
        x.see(1, 1);
        x.image();
        for (int hours = 2; hours <= 5; hours++) {
            x.see(hours, hours % 2);
        }
        return x;
    }

    static void seeThe6thIsTaken() {
        WakefulBed x = Due.house("l4,l2;1");
        for (int size = 1; size <= 6; size++) {
            Due.due("see() " + size, x.see(0, 1), size);
        }
        Due.due("count(5)", x.count(5), 6);
    }

    static void seeThe7thIsFull() {
        Cases.refuses(SeenEdgeTest::fullOfSights, "see() 7", x -> x.see(0, 1), WakefulBed.FULL);
        Cases.refuses(SeenEdgeTest::fullOfSights, "see() 7", x -> x.see(12, WakefulBed.NONE), WakefulBed.FULL);
    }

    static void seeThe6thIsHeeded() {
        WakefulBed x = Due.house("l4,l2;1");
        for (int size = 1; size <= 5; size++) {
            x.see(0, 1);
        }
        Due.due("1 has it", x.about(0, 5), 0b1111111000);
        x.see(0, 0);
        Due.due("both have it", x.about(0, 5), 0);
    }

    static void seeOutsideIsToldAheadOfUnknown() {
        Cases.refuses(Cases::rich, "see(13, 5)", x -> x.see(13, 5), WakefulBed.OUTSIDE);
        Cases.refuses(Cases::rich, "see(-1, -2)", x -> x.see(-1, -2), WakefulBed.OUTSIDE);
    }

    static void seeUnknownIsToldAheadOfFull() {
        Cases.refuses(SeenEdgeTest::fullOfSights, "see() 7", x -> x.see(0, 2), WakefulBed.UNKNOWN);
    }

    static void seeOutsideIsToldAheadOfFull() {
        Cases.refuses(SeenEdgeTest::fullOfSights, "see() 7", x -> x.see(13, 0), WakefulBed.OUTSIDE);
    }

    static void seeOnceFullThenForgetIsTaken() {
        WakefulBed x = fullOfSights();
        x.see(0, 1);
        x.forget();
        Due.due("see()", x.see(0, 1), 1);
    }

    static void seeTheSameTwiceCountsTwice() {
        WakefulBed x = Due.house("l4,l2;1");
        x.see(3, 1);
        Due.due("see(3, 1)", x.see(3, 1), 2);
    }

    // ---- HOW TIRED, as about() tells it

    static void tiredWithNothingSeenIsAllOf0To9() {
        WakefulBed x = Due.house("l0,w9,v5,m5,p9;4");
        for (int lodger = 0; lodger < 5; lodger++) {
            Due.due("about(" + lodger + ", 5)", x.about(lodger, 5), 1023);
        }
    }

    static void tired0Alone() {
        WakefulBed x = Due.house("l5,l0;1");
        x.see(0, 0);
        Due.due("about(0, 5)", x.about(0, 5), 1);
    }

    static void tired9Alone() {
        WakefulBed x = Due.house("l9,l5;1");
        x.see(0, 0);
        Due.due("about(1, 5)", x.about(1, 5), 1 << 9);
    }

    static void tiredNoneOfThem() {
        WakefulBed x = Due.house("l5,l0;1");
        x.see(0, WakefulBed.NONE);
        Due.due("about(0, 5)", x.about(0, 5), 0);
    }

    static void tiredOfASleeperIsAsAwake() {
        WakefulBed x = Due.house("l9,w0;1");
        x.lecture(0);
        x.see(0, 0);
        Due.due("about(0, 5)", x.about(0, 5), 1023);
        Due.due("he sleeps on", x.about(0, 2), 1);
    }

    static void tiredOfAWatchmanIsAllOrNone() {
        WakefulBed x = Due.house("w9,l0;1");
        x.see(0, 1);
        Due.due("about(0, 5)", x.about(0, 5), 1023);
        x.see(1, WakefulBed.NONE);
        Due.due("about(0, 5)", x.about(0, 5), 0);
    }

    /** What public hours and beds tell: which digits the lodger between those two texts can have. */
    private static int bitsByHours(String ahead, String behind, int hours, int bedOf) {
        int bits = 0;
        for (int howTired = 0; howTired <= 9; howTired++) {
            WakefulBed x = Due.house(ahead + howTired + behind);
            Due.pass(x, hours);
            bits |= x.bed() == bedOf ? 1 << howTired : 0;
        }
        return bits;
    }

    static void tiredBy0To12HoursEach() {
        for (int hours = 0; hours <= 12; hours++) {
            for (int bedOf = -1; bedOf <= 2; bedOf++) {
                WakefulBed x = Due.house("v4,p0,m6;2");
                x.see(hours, bedOf);
                int want = bitsByHours("v4,p", ",m6;2", hours, bedOf);
                Due.due("behind " + hours + " it was " + bedOf + "'s", x.about(1, 5), want);
            }
        }
    }

    static void tiredByTwoSightsIsByBoth() {
        WakefulBed x = Due.house("w0,l0;1");
        x.see(4, WakefulBed.NONE);
        x.see(2, 1);
        Due.due("about(1, 5)", x.about(1, 5),
            bitsByHours("w0,l", ";1", 4, -1) & bitsByHours("w0,l", ";1", 2, 1));
        Due.due("about(1, 5)", x.about(1, 5), 0b0000111100);
    }

    // ---- LOOK, as about() tells it

    /** By public hours and beds: the least hour of 0 to 12 that leaves fewest of the ten at worst. */
    private static int lookByHours(String ahead, String behind) {
        int best = -1;
        int fewest = 11;
        for (int hours = 0; hours <= 12; hours++) {
            int worst = 0;
            for (int bedOf = -1; bedOf < 5; bedOf++) {
                worst = Math.max(worst, Integer.bitCount(bitsByHours(ahead, behind, hours, bedOf)));
            }
            if (worst < fewest) {
                fewest = worst;
                best = hours;
            }
        }
        return best;
    }

    static void lookAt0() {
        Due.due("by hours", lookByHours("p", ",l4;3"), 0);
        Due.due("about(0, 6)", Due.house("p0,l4;3").about(0, 6), 0);
    }

    static void lookAt12() {
        Due.due("by hours", lookByHours("p", ",l4;1"), 12);
        Due.due("about(0, 6)", Due.house("p0,l4;1").about(0, 6), 12);
    }

    /** Behind 13 hours fewer would be left at worst than behind any of 0 to 12, but nobody can look then. */
    static void lookBehind13HoursIsNone() {
        Due.due("by hours", lookByHours("m0,l", ",m4;3"), 4);
        Due.due("about(1, 6)", Due.house("m0,l9,m4;3").about(1, 6), 4);
    }

    /** Without the one of 0 tired the best look would be behind 1 hour. */
    static void lookCountsOneOf0Tired() {
        Due.due("by hours", lookByHours("m", ",v9;4"), 5);
        Due.due("about(0, 6)", Due.house("m3,v9;4").about(0, 6), 5);
    }

    static void lookOfLikeOnesTheLeast() {
        // Alone with a watchman: behind 1 hour 0 to 4 keep the bed and 5 to 9 sleep, and so again behind 4, 6, 9, 11.
        Due.due("about(1, 6)", Due.house("w0,l0;4").about(1, 6), 1);
        Due.due("all alike", Due.house("w0,l0;4").about(0, 6), 0);
    }

    static void lookOfNone() {
        WakefulBed x = Due.house("l5,l0;1");
        x.see(0, WakefulBed.NONE);
        Due.due("about(0, 6)", x.about(0, 6), WakefulBed.NONE);
    }

    static void lookOfOneIsNow() {
        WakefulBed x = Due.house("l5,l0;1");
        x.see(0, 0);
        Due.due("about(0, 6)", x.about(0, 6), 0);
    }

    static void lookCountsNobodysBedAsWell() {
        // Of 8 and 9 behind 1 hour both sleep, behind 4 both have woken: never told apart.
        WakefulBed x = Due.house("w0,l0;1");
        x.see(1, WakefulBed.NONE);
        Due.due("about(1, 5)", x.about(1, 5), 0b1100000000);
        Due.due("about(1, 6)", x.about(1, 6), 0);
        // Of 6 and 7, and these, the bed is nobody's or 1's behind 1 hour.
        WakefulBed y = Due.house("w0,l0;1");
        y.see(2, WakefulBed.NONE);
        Due.due("about(1, 5)", y.about(1, 5), 0b1111000000);
        Due.due("about(1, 6)", y.about(1, 6), 1);
    }

    static void lookAskedChangesNothing() {
        Cases.refuses(() -> Due.house("p0,l4;1"), "about(0, 6)", x -> x.about(0, 6), 12);
    }

    // ---- promise 16: forget

    static void forgetNothing() {
        Cases.refuses(() -> Due.house("l0,l0;1"), "forget()", WakefulBed::forget, 0);
    }

    static void forgetAll6() {
        WakefulBed x = fullOfSights();
        Due.due("forget()", x.forget(), 6);
        Due.due("count(5)", x.count(5), 0);
        Due.due("about(0, 5)", x.about(0, 5), 1023);
    }

    static void forgetTwice() {
        WakefulBed x = fullOfSights();
        x.forget();
        Due.due("forget()", x.forget(), 0);
    }

    static void forgetWithoutAHouse() {
        WakefulBed x = new WakefulBed();
        x.see(12, WakefulBed.NONE);
        Due.due("forget()", x.forget(), 1);
        Due.due("forget()", x.forget(), 0);
    }

    static void forgetLeavesTheImage() {
        WakefulBed x = fullOfSights();
        x.forget();
        x.restore();
        Due.due("count(5)", x.count(5), 2);
    }

    // ---- promise 17: nights

    static void nightsHours0OrHours61() {
        for (int hours : new int[] {LEAST, -1, 0, 61, MOST}) {
            Cases.refuses(Cases::rich, "nights(" + hours + ", 0, 0)", x -> x.nights(hours, 0, 0), WakefulBed.OUTSIDE);
        }
    }

    static void nightsSeedBelow0() {
        for (int seed : new int[] {LEAST, -MOST, -1}) {
            Cases.refuses(Cases::rich, "nights(1, " + seed + ", 2)", x -> x.nights(1, seed, 2), WakefulBed.OUTSIDE);
        }
    }

    static void nightsWhatBelow0OrAbove2() {
        for (int what : new int[] {LEAST, -1, 3, MOST}) {
            Cases.refuses(Cases::rich, "nights(1, 0, " + what + ")", x -> x.nights(1, 0, what), WakefulBed.OUTSIDE);
        }
    }

    static void nightsWithoutAHouse() {
        Cases.refuses(() -> Cases.written("l1,l1;1"), "nights(1, 0, 2)", x -> x.nights(1, 0, 2), WakefulBed.STATE);
    }

    static void nightsOutsideIsToldAheadOfState() {
        Cases.refuses(WakefulBed::new, "nights(0, 0, 0)", x -> x.nights(0, 0, 0), WakefulBed.OUTSIDE);
        Cases.refuses(WakefulBed::new, "nights(61, 0, 0)", x -> x.nights(61, 0, 0), WakefulBed.OUTSIDE);
        Cases.refuses(WakefulBed::new, "nights(1, -1, 0)", x -> x.nights(1, -1, 0), WakefulBed.OUTSIDE);
        Cases.refuses(WakefulBed::new, "nights(1, 0, 3)", x -> x.nights(1, 0, 3), WakefulBed.OUTSIDE);
    }

    static void nightsAskedChangeNothing() {
        Cases.refuses(Cases::rich, "nights(60, 0, 2)", x -> x.nights(60, 0, 2), seedBehind(0, 120));
    }

    /** The seed behind so many draws, of numbers that have no bound to wrap around at. */
    private static int seedBehind(int seed, int draws) {
        BigInteger drawn = BigInteger.valueOf(seed);
        for (int draw = 0; draw < draws; draw++) {
            drawn = drawn.multiply(BigInteger.valueOf(1103515245)).add(BigInteger.valueOf(12345))
                .mod(BigInteger.ONE.shiftLeft(31));
        }
        return drawn.intValueExact();
    }

    private static int drawOf(int seed, int draws, int howMany) {
        return Math.floorMod(Math.floorDiv(seedBehind(seed, draws), 65536), howMany);
    }

    static void nightsSeedOf1HourAndOf60() {
        WakefulBed x = Due.house("l0,l0;1");
        Due.due("nights(1, 1, 2)", x.nights(1, 1, 2), seedBehind(1, 2));
        Due.due("nights(60, 1, 2)", x.nights(60, 1, 2), seedBehind(1, 120));
    }

    static void nightsSeed0() {
        Due.due("nights(1, 0, 2)", Due.house("l0,l0;1").nights(1, 0, 2), seedBehind(0, 2));
        Due.due("two draws from 0", seedBehind(0, 2), 1406932606);
    }

    static void nightsSeedAtTheMostWrapsAround() {
        WakefulBed x = Due.house("l0,l0;1");
        for (int seed : new int[] {MOST, MOST - 1, 1 << 30, (1 << 30) - 1, 65535, 65536}) {
            Due.due("nights(1, " + seed + ", 2)", x.nights(1, seed, 2), seedBehind(seed, 2));
        }
    }

    /** He of 8 sleeps behind the hour if he gets the lecture and not the coffee, and nobody else can. */
    static void nightsDrawsAreOfHowManyThereAre() {
        String text = "w0,w0,w0,w0,w0";
        for (int lodgers = 2; lodgers <= 5; lodgers++) {
            for (int one = 0; one < lodgers; one++) {
                StringBuilder house = new StringBuilder(text.substring(0, 3 * lodgers - 1)).append(";1");
                house.setCharAt(3 * one + 1, '8');
                WakefulBed x = Due.house(house.toString());
                for (int seed = 0; seed < 2000000000; seed += 99999989) {
                    boolean sleeps = drawOf(seed, 2, lodgers) == one && drawOf(seed, 1, lodgers) != one;
                    Due.due(house + " nights(1, " + seed + ", 1)", x.nights(1, seed, 1), sleeps ? 1 : 0);
                }
            }
        }
    }

    /** A sleeper of 7 would wake by coffee behind the hour; one of 4 would sleep on by a lecture. */
    static void nightsASleeperGetsNeither() {
        WakefulBed x = Due.house("w9,w9;1");
        Due.pass(x, 2);
        WakefulBed y = Due.house("w9,w9;1");
        Due.pass(y, 3);
        for (int seed = 0; seed < 50; seed++) {
            Due.due("at 7", x.nights(1, seed * 65536, 1), 2);
            Due.due("at 4", y.nights(1, seed * 65536, 1), 0);
        }
    }

    static void nightsInWhichTheBedIsNever0s() {
        Due.due("nights(60, 3, 0)", Due.house("w0,l0;1").nights(60, 3, 0), 0);
    }

    static void nightsInWhichTheBedIs0sAheadOfTheOneHour() {
        Due.due("nights(1, 3, 0)", Due.house("l0,w0;1").nights(1, 3, 0), 1);
        Due.due("nights(1, 3, 0)", Due.house("l0,l9;1").nights(1, 3, 0), 1);
    }

    /** By seed 0 both get to lodger 0: 3 becomes 0, then 2; the bed is counted behind both, ahead of the hour. */
    static void nightsCountTheBedBehindBoth() {
        Due.due("the coffee is 0's", drawOf(0, 1, 2), 0);
        Due.due("the lecture is 0's", drawOf(0, 2, 2), 0);
        Due.due("like ones", Due.house("l3,l2;1").nights(1, 0, 0), 1);
        Due.due("the other is less tired", Due.house("l3,l1;1").nights(1, 0, 0), 0);
        Due.due("by coffee alone he would have it", Due.house("l4,l2;1").nights(1, 0, 0), 0);
        Due.due("by the hour he would lose it", Due.house("l3,l3;4").nights(1, 0, 0), 1);
    }

    static void nightsTellWhoIsAsleepBehindTheLastHour() {
        // Whoever gets coffee or a lecture, the other one is 10 by the hour; he of both is 8, then 9.
        WakefulBed x = Due.house("w9,w9;1");
        for (int seed = 0; seed < 20; seed++) {
            Due.due("nights(1, " + seed + ", 1)", x.nights(1, seed * 65536, 1), 1);
        }
    }
}
