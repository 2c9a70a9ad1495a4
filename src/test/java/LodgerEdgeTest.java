/** The boundary cases of "Terms" up to COFFEE and of promises 6 to 11, each a test of its own. */
final class LodgerEdgeTest {
    private static final int LEAST = Integer.MIN_VALUE, MOST = Integer.MAX_VALUE;
    private static final int[] NO_LODGERS = {LEAST, -101, -2, -1, 5, 6, MOST};

    public static void main(String[] args) throws Exception {
        Cases.run(LodgerEdgeTest.class);
    }

    private static WakefulBed behind(String text, int hours) {
        WakefulBed x = Due.house(text);
        Due.pass(x, hours);
        return x;
    }

    private static void tired(WakefulBed x, int... want) {
        for (int lodger = 0; lodger < want.length; lodger++) {
            Due.due("tired of " + lodger + " at hour " + x.count(3), x.about(lodger, 1), want[lodger]);
        }
    }

    private static void asleep(WakefulBed x, int... want) {
        for (int lodger = 0; lodger < want.length; lodger++) {
            Due.due("asleep of " + lodger + " at hour " + x.count(3), x.about(lodger, 2), want[lodger]);
        }
    }

    // ---- THE BED

    static void bedIsTheLeastTiredOnes() {
        Due.due("bed()", Due.house("l9,v8,m7,p6,l5;1").bed(), 4);
        Due.due("bed()", Due.house("l0,v1,m2,p3,l4;1").bed(), 0);
    }

    static void bedOfLikeOnesIsTheLeastNumbers() {
        Due.due("bed()", Due.house("l3,v3,m3,p3,l3;1").bed(), 0);
        Due.due("bed()", Due.house("l4,v4,m4,p3,l3;1").bed(), 3);
    }

    static void bedIsNoWatchmans() {
        Due.due("bed()", Due.house("w0,w0,w0,w0,l9;1").bed(), 4);
    }

    static void bedIsNobodysAmongWatchmen() {
        Due.due("bed()", Due.house("w0,w0;1").bed(), WakefulBed.NONE);
        Due.due("bed()", Due.house("w0,w1,w2,w3,w4;1").bed(), WakefulBed.NONE);
    }

    static void bedIsNobodysAmongSleepers() {
        WakefulBed x = behind("l9,l9;1", 1);
        asleep(x, 1, 1);
        Due.due("bed()", x.bed(), WakefulBed.NONE);
    }

    static void bedIsNobodysAmongSleepersAndWatchmen() {
        WakefulBed x = Due.house("w0,l9;1");
        x.lecture(1);
        Due.due("bed()", x.bed(), WakefulBed.NONE);
    }

    /** Asleep, and less tired than whoever is awake. */
    static void bedIsNoSleepersThoughLessTired() {
        WakefulBed x = behind("l9,m5,w0;1", 3);
        tired(x, 4, 8, 3);
        asleep(x, 1, 0, 0);
        Due.due("bed()", x.bed(), 1);
    }

    static void bedIsHisAtOnceWhoWakes() {
        WakefulBed x = behind("l9,w0,m8;1", 4);
        tired(x, 1, 4);
        Due.due("bed()", x.bed(), 0);
    }

    // ---- an HOUR

    static void hourDrowseComesAheadOfTheMournersBound() {
        tired(behind("m5,l9;1", 1), 6);
        tired(behind("m4,l9;1", 1), 6);
        tired(behind("m3,l9;1", 1), 5);
        tired(behind("m2,l9;4", 1), 6);
        tired(behind("m1,l9;4", 1), 6);
    }

    static void hourMournerOf5GetsMoreTired() {
        tired(behind("m5,l0;1", 1), 6);
    }

    static void hourMournerOf6DoesNot() {
        tired(behind("m6,l0;1", 1), 6);
        tired(behind("m9,l0;1", 1), 9);
    }

    static void hourLoverInTheFirstAndSecond() {
        WakefulBed x = Due.house("v5,l0;1");
        x.hour();
        tired(x, 5);
        x.hour();
        tired(x, 6);
    }

    static void hourPoetInTheFirstAndSecondWithoutTheBed() {
        WakefulBed x = Due.house("p5,l0;1");
        x.hour();
        tired(x, 5);
        x.hour();
        tired(x, 6);
    }

    static void hourPoetInTheFirstAndSecondWithTheBed() {
        WakefulBed x = Due.house("p0,l9;1");
        x.hour();
        tired(x, 2);
        x.hour();
        tired(x, 5);
    }

    /** The poet, made more tired by the hour than the other one, had THE BED when the hour began. */
    static void hourPoetWhoLosesTheBedByItHadIt() {
        tired(behind("p4,m4;4", 1), 9, 5);
    }

    static void hourWatchmanIsAsALodger() {
        tired(behind("w0,w8,l0;1", 1), 1, 9, 2);
    }

    static void hourNobodysBedMakesNobodyDrowsy() {
        WakefulBed x = behind("w0,w5;4", 1);
        tired(x, 1, 6);
        Due.due("about(0, 4)", x.about(0, 4), 0);
        Due.due("about(1, 4)", x.about(1, 4), 0);
    }

    static void hour9TiredIsAwake() {
        WakefulBed x = behind("w8,l0;1", 1);
        tired(x, 9);
        asleep(x, 0);
    }

    static void hour10TiredIsAsleep() {
        WakefulBed x = behind("w9,l0;1", 1);
        tired(x, 10);
        asleep(x, 1);
    }

    static void hourAbove10Is10() {
        WakefulBed x = behind("l9,w9;4", 1);
        tired(x, 10, 10);
        asleep(x, 1, 1);
        x.hour();
        tired(x, 7, 7);
    }

    static void hourSleeperIsLessTiredBy3AndWakesBelow3() {
        WakefulBed x = Due.house("w9,m0;1");
        int[] howTired = {10, 7, 4, 1, 2};
        int[] sleeps = {1, 1, 1, 0, 0};
        for (int passed = 0; passed < howTired.length; passed++) {
            x.hour();
            tired(x, howTired[passed]);
            asleep(x, sleeps[passed]);
        }
    }

    static void hourOneWhoSleepsByALectureIsLessTiredAtOnce() {
        WakefulBed x = Due.house("w9,m0;1");
        x.lecture(0);
        tired(x, 10);
        x.hour();
        tired(x, 7);
    }

    static void hourAnswersHowManyAreAsleep() {
        Due.due("none", Due.house("w0,l0;1").hour(), 0);
        Due.due("two", Due.house("w9,l9,v9,m9,p9;4").hour(), 2);
        Due.due("all five", Due.house("w9,l9,w9,l9,l9;4").hour(), 5);
    }

    static void hourWithoutAHouse() {
        Cases.refuses(() -> Cases.written("l1,l1;1"), "hour()", WakefulBed::hour, WakefulBed.STATE);
    }

    static void hourIsCountedFrom1() {
        WakefulBed x = Due.house("w0,w0;1");
        Due.due("count(3)", x.count(3), 0);
        x.hour();
        Due.due("count(3)", x.count(3), 1);
    }

    // ---- promise 6: about

    static void aboutLodgerThatIsNone() {
        for (int lodger : NO_LODGERS) {
            Cases.refuses(Cases::rich, "about(" + lodger + ", 1)", x -> x.about(lodger, 1), WakefulBed.UNKNOWN);
        }
    }

    static void aboutLodgerBehindTheLastOfEachHouse() {
        String text = "l0,l0,l0,l0,l0";
        for (int lodgers = 2; lodgers <= 5; lodgers++) {
            int number = lodgers;
            String house = text.substring(0, 3 * lodgers - 1) + ";1";
            Due.due("about the last", Due.house(house).about(number - 1, 1), 0);
            Cases.refuses(() -> Due.house(house), "about(" + number + ", 1)", x -> x.about(number, 1),
                WakefulBed.UNKNOWN);
        }
    }

    static void aboutWhatBelow0OrAbove6() {
        for (int what : new int[] {LEAST, -1, 7, MOST}) {
            Cases.refuses(Cases::rich, "about(0, " + what + ")", x -> x.about(0, what), WakefulBed.OUTSIDE);
        }
    }

    static void aboutUnknownIsToldAheadOfOutside() {
        Cases.refuses(Cases::rich, "about(5, 7)", x -> x.about(5, 7), WakefulBed.UNKNOWN);
        Cases.refuses(Cases::rich, "about(-1, -1)", x -> x.about(-1, -1), WakefulBed.UNKNOWN);
    }

    static void aboutWhat0To6ChangesNothing() {
        int[] want = {3, 6, 0, 1, 0};
        for (int what = 0; what <= 6; what++) {
            int asked = what;
            long due = what < want.length ? want[what] : Cases.rich().about(3, what);
            Cases.refuses(Cases::rich, "about(3, " + what + ")", x -> x.about(3, asked), due);
        }
    }

    static void aboutBedOfNobody() {
        WakefulBed x = behind("l9,l9;1", 1);
        Due.due("about(0, 3)", x.about(0, 3), 0);
        Due.due("about(1, 3)", x.about(1, 3), 0);
    }

    static void aboutBedIsOneOnesAlone() {
        WakefulBed x = Due.house("l3,l3,l3,l3,l3;1");
        for (int lodger = 0; lodger < 5; lodger++) {
            Due.due("about(" + lodger + ", 3)", x.about(lodger, 3), lodger == 0 ? 1 : 0);
        }
    }

    /** Coffee and lectures move THE BED, but it counts only ahead of an HOUR. */
    static void aboutBedHoursAreCountedByHoursAlone() {
        WakefulBed x = Due.house("l3,l2;1");
        x.coffee(0);
        x.lecture(0);
        x.lecture(0);
        Due.due("about(0, 4)", x.about(0, 4), 0);
        Due.due("about(1, 4)", x.about(1, 4), 0);
        x.hour();
        Due.due("about(0, 4)", x.about(0, 4), 0);
        Due.due("about(1, 4)", x.about(1, 4), 1);
    }

    static void aboutBedHoursCountTheOneThatMadeHimSleep() {
        WakefulBed x = behind("l9,w0;4", 1);
        asleep(x, 1);
        Due.due("about(0, 4)", x.about(0, 4), 1);
        x.hour();
        Due.due("about(0, 4)", x.about(0, 4), 1);
    }

    // ---- promise 7: as

    static void asKindBelow0OrAbove4() {
        for (int kind : new int[] {LEAST, -1, 5, MOST}) {
            Cases.refuses(Cases::rich, "as(0, " + kind + ")", x -> x.as(0, kind), WakefulBed.OUTSIDE);
        }
    }

    static void asLodgerThatIsNone() {
        for (int lodger : NO_LODGERS) {
            Cases.refuses(Cases::rich, "as(" + lodger + ", 0)", x -> x.as(lodger, 0), WakefulBed.UNKNOWN);
        }
    }

    static void asUnknownIsToldAheadOfOutside() {
        Cases.refuses(Cases::rich, "as(5, 5)", x -> x.as(5, 5), WakefulBed.UNKNOWN);
        Cases.refuses(Cases::rich, "as(-1, -1)", x -> x.as(-1, -1), WakefulBed.UNKNOWN);
    }

    static void asAllAreLodgers() {
        WakefulBed x = Due.house("l0,w0,v0,m0,p0;1");
        for (int lodger = 0; lodger < 5; lodger++) {
            Due.due("as(" + lodger + ", 0)", x.as(lodger, 0), lodger);
        }
    }

    static void asAPoetIsALover() {
        Due.due("as(1, 2)", Due.house("l0,p0;1").as(1, 2), 1);
    }

    static void asALoverIsNoPoet() {
        Due.due("as(1, 4)", Due.house("l0,v0;1").as(1, 4), WakefulBed.NONE);
    }

    static void asALodgerIsNothingElse() {
        WakefulBed x = Due.house("l0,l0;1");
        for (int kind = 1; kind <= 4; kind++) {
            Due.due("as(0, " + kind + ")", x.as(0, kind), WakefulBed.NONE);
        }
    }

    static void asASleeperKeepsHisKind() {
        Cases.refuses(Cases::rich, "as(0, 0)", x -> x.as(0, 0), 0);
        Cases.refuses(Cases::rich, "as(0, 1)", x -> x.as(0, 1), WakefulBed.NONE);
    }

    // ---- promise 8: bed

    static void bedWithoutAHouse() {
        Cases.refuses(() -> Cases.written("l1,l1;1"), "bed()", WakefulBed::bed, WakefulBed.STATE);
    }

    static void bedAskedChangesNothing() {
        Cases.refuses(Cases::rich, "bed()", WakefulBed::bed, 3);
    }

    // ---- promise 9: coffee

    static void coffeeIs0AtLeast() {
        int[] want = {0, 0, 0, 0, 1, 2, 3, 4, 5, 6};
        for (int howTired = 0; howTired <= 9; howTired++) {
            Due.due("coffee at " + howTired, Due.house("w5,l" + howTired + ";1").coffee(1), want[howTired]);
        }
    }

    static void coffeeOfALodgerThatIsNone() {
        for (int lodger : NO_LODGERS) {
            Cases.refuses(Cases::rich, "coffee(" + lodger + ")", x -> x.coffee(lodger), WakefulBed.UNKNOWN);
        }
    }

    static void coffeeOfASleeper() {
        Cases.refuses(Cases::rich, "coffee(0)", x -> x.coffee(0), WakefulBed.STATE);
    }

    static void coffeeOfEachKindAlike() {
        WakefulBed x = Due.house("l5,w5,v5,m5,p5;1");
        for (int lodger = 0; lodger < 5; lodger++) {
            Due.due("coffee(" + lodger + ")", x.coffee(lodger), 2);
        }
    }

    static void coffeeOfOneWhoHasJustWoken() {
        WakefulBed x = behind("w9,m0;1", 4);
        Due.due("coffee(0)", x.coffee(0), 0);
    }

    static void coffeeBringsTheBedAtOnce() {
        WakefulBed x = Due.house("l0,l3;1");
        Due.due("coffee(1)", x.coffee(1), 0);
        Due.due("of like ones the least number's", x.bed(), 0);
        WakefulBed y = Due.house("l1,l3;1");
        Due.due("coffee(1)", y.coffee(1), 0);
        Due.due("bed()", y.bed(), 1);
    }

    // ---- promise 10: lecture

    static void lectureIs10AtMost() {
        int[] want = {2, 3, 4, 5, 6, 7, 8, 9, 10, 10};
        for (int howTired = 0; howTired <= 9; howTired++) {
            Due.due("lecture at " + howTired, Due.house("w5,l" + howTired + ";1").lecture(1), want[howTired]);
        }
    }

    static void lectureTo9LeavesHimAwake() {
        WakefulBed x = Due.house("w5,l7;1");
        x.lecture(1);
        asleep(x, 0, 0);
        Due.due("bed()", x.bed(), 1);
    }

    static void lectureTo10PutsHimToSleepAtOnce() {
        WakefulBed x = Due.house("w5,l8;1");
        x.lecture(1);
        asleep(x, 0, 1);
        Due.due("bed()", x.bed(), WakefulBed.NONE);
        Due.due("count(2)", x.count(2), 1);
    }

    static void lectureOfALodgerThatIsNone() {
        for (int lodger : NO_LODGERS) {
            Cases.refuses(Cases::rich, "lecture(" + lodger + ")", x -> x.lecture(lodger), WakefulBed.UNKNOWN);
        }
    }

    static void lectureToASleeper() {
        Cases.refuses(Cases::rich, "lecture(0)", x -> x.lecture(0), WakefulBed.STATE);
    }

    static void lectureToEachKindAlike() {
        WakefulBed x = Due.house("l8,w8,v8,m8,p8;1");
        for (int lodger = 0; lodger < 5; lodger++) {
            Due.due("lecture(" + lodger + ")", x.lecture(lodger), 10);
        }
        Due.due("count(2)", x.count(2), 5);
    }
}
