/** The boundary cases of "COFFEE for", "LECTURES for", "SUNDAY" and of promises 12 to 14, each a test of its own. */
final class WouldBeEdgeTest {
    private static final int LEAST = Integer.MIN_VALUE, MOST = Integer.MAX_VALUE;
    private static final int[] NO_LODGERS = {LEAST, -101, -2, -1, 5, 6, MOST};

    public static void main(String[] args) throws Exception {
        Cases.run(WouldBeEdgeTest.class);
    }

    private static void cups(String text, int lodger, int hours, int want) {
        Cases.refuses(() -> Due.house(text), text + " cups(" + lodger + ", " + hours + ")",
            x -> x.cups(lodger, hours), want);
    }

    private static void lectures(WakefulBed x, int lodger, int hours, int inBed, int first) {
        String call = "lectures(" + lodger + ", " + hours + ", ";
        Due.due(call + "0)", x.lectures(lodger, hours, 0), inBed);
        Due.due(call + "1)", x.lectures(lodger, hours, 1), first);
    }

    private static void lectures(String text, int lodger, int hours, int inBed, int first) {
        lectures(Due.house(text), lodger, hours, inBed, first);
    }

    private static void sunday(WakefulBed x, int pair, int hours) {
        Due.due("sunday(0)", x.sunday(0), pair);
        Due.due("sunday(1)", x.sunday(1), hours);
    }

    // ---- promise 12: cups

    static void cupsFor0OrFor7Hours() {
        for (int hours : new int[] {LEAST, -1, 0, 7, MOST}) {
            Cases.refuses(Cases::rich, "cups(3, " + hours + ")", x -> x.cups(3, hours), WakefulBed.OUTSIDE);
        }
    }

    static void cupsFor1HourAskOfNowAlone() {
        cups("l9,w0;4", 0, 1, 0);
    }

    static void cupsForTheLastHourAskNotBehindIt() {
        // 8 becomes 13 by an hour, 2 becomes 7: it has to be his ahead of the second hour, and not behind it.
        cups("l8,w0;4", 0, 2, 2);
        cups("l4,w0;4", 0, 2, 0);
        cups("l5,w0;4", 0, 2, 1);
    }

    static void cupsFor6Hours() {
        // A lover alone gets 1, 2, 1, 2, 1 more ahead of the sixth hour, so that he has to begin at 2.
        cups("v2,w0;1", 0, 6, 0);
        cups("v3,w0;1", 0, 6, 1);
        cups("v3,w0;1", 0, 5, 0);
        cups("v6,w0;1", 0, 6, 2);
        cups("v9,w0;1", 0, 6, 3);
    }

    static void cupsNoneIsNeeded() {
        cups("l0,l0;1", 0, 1, 0);
    }

    static void cupsThreeAreTheMostThatHelp() {
        cups("l9,l0;1", 0, 1, 3);
    }

    static void cupsNoneByFour() {
        cups("l0,l9;1", 1, 1, WakefulBed.NONE);
        cups("l0,w0;4", 0, 3, WakefulBed.NONE);
    }

    static void cupsTheFewestThoughMoreWouldDo() {
        cups("l9,l7;1", 0, 1, 1);
        cups("l9,l6;1", 0, 1, 1);
        cups("l9,l5;1", 0, 1, 2);
    }

    static void cupsOfLikeOnesTheLeastNumberHasIt() {
        cups("l6,l3;1", 0, 1, 1);
        cups("l3,l6;1", 1, 1, 2);
    }

    static void cupsOfAWatchmanAreNone() {
        cups("w0,l9;1", 0, 1, WakefulBed.NONE);
        cups("w0,w9;1", 0, 6, WakefulBed.NONE);
    }

    static void cupsOfALodgerThatIsNone() {
        for (int lodger : NO_LODGERS) {
            Cases.refuses(Cases::rich, "cups(" + lodger + ", 1)", x -> x.cups(lodger, 1), WakefulBed.UNKNOWN);
        }
    }

    static void cupsOfASleeper() {
        Cases.refuses(Cases::rich, "cups(0, 1)", x -> x.cups(0, 1), WakefulBed.STATE);
        Cases.refuses(Cases::rich, "cups(0, 6)", x -> x.cups(0, 6), WakefulBed.STATE);
    }

    static void cupsUnknownIsToldAheadOfOutside() {
        Cases.refuses(Cases::rich, "cups(5, 0)", x -> x.cups(5, 0), WakefulBed.UNKNOWN);
        Cases.refuses(Cases::rich, "cups(-1, 7)", x -> x.cups(-1, 7), WakefulBed.UNKNOWN);
    }

    static void cupsOutsideIsToldAheadOfState() {
        Cases.refuses(Cases::rich, "cups(0, 0)", x -> x.cups(0, 0), WakefulBed.OUTSIDE);
        Cases.refuses(Cases::rich, "cups(0, 7)", x -> x.cups(0, 7), WakefulBed.OUTSIDE);
    }

    /** The hours that would be go on from this one: a lover's next hour is the second. */
    static void cupsGoOnFromTheHourThatIs() {
        WakefulBed x = Due.house("w0,v6;1");
        Due.due("from hour 0, three hours", x.cups(1, 3), 0);
        Due.due("from hour 0, four hours", x.cups(1, 4), 1);
        x.hour();
        // He is 7, and gets 2, then 1 more.
        Due.due("from hour 1, two hours", x.cups(1, 2), 0);
        Due.due("from hour 1, three hours", x.cups(1, 3), 1);
    }

    // ---- promise 13: lectures

    static void lecturesFor0OrFor4Hours() {
        for (int hours : new int[] {LEAST, -1, 0, 4, MOST}) {
            Cases.refuses(Cases::rich, "lectures(3, " + hours + ", 0)", x -> x.lectures(3, hours, 0),
                WakefulBed.OUTSIDE);
        }
    }

    static void lecturesWhatBelow0OrAbove1() {
        for (int what : new int[] {LEAST, -1, 2, MOST}) {
            Cases.refuses(Cases::rich, "lectures(3, 1, " + what + ")", x -> x.lectures(3, 1, what),
                WakefulBed.OUTSIDE);
        }
    }

    static void lecturesOfALodgerThatIsNone() {
        for (int lodger : NO_LODGERS) {
            Cases.refuses(Cases::rich, "lectures(" + lodger + ", 1, 0)", x -> x.lectures(lodger, 1, 0),
                WakefulBed.UNKNOWN);
        }
    }

    static void lecturesUnknownIsToldAheadOfOutside() {
        Cases.refuses(Cases::rich, "lectures(5, 4, 2)", x -> x.lectures(5, 4, 2), WakefulBed.UNKNOWN);
        Cases.refuses(Cases::rich, "lectures(-1, 0, -1)", x -> x.lectures(-1, 0, -1), WakefulBed.UNKNOWN);
    }

    /** A house whose lectures() was done that often. */
    private static WakefulBed lectured(int times) {
        WakefulBed x = Due.house("l4,l2;1");
        for (int done = 0; done < times; done++) {
            x.lectures(0, 1, 0);
        }
        return x;
    }

    static void lecturesThe40thIsDone() {
        WakefulBed x = lectured(39);
        Due.due("lectures() 40", x.lectures(0, 1, 1), 1);
        Due.due("count(8)", x.count(8), 40);
    }

    static void lecturesThe41stIsNot() {
        Cases.refuses(() -> lectured(40), "lectures() 41", x -> x.lectures(0, 1, 1), WakefulBed.STATE);
    }

    static void lecturesUnknownIsToldAheadOfState() {
        Cases.refuses(() -> lectured(40), "lectures() 41", x -> x.lectures(2, 1, 1), WakefulBed.UNKNOWN);
    }

    static void lecturesOutsideIsToldAheadOfState() {
        Cases.refuses(() -> lectured(40), "lectures() 41", x -> x.lectures(0, 4, 1), WakefulBed.OUTSIDE);
        Cases.refuses(() -> lectured(40), "lectures() 41", x -> x.lectures(0, 1, 2), WakefulBed.OUTSIDE);
    }

    static void lecturesRefusedAreNotDone() {
        WakefulBed x = lectured(39);
        x.lectures(2, 1, 0);
        x.lectures(0, 4, 0);
        x.lectures(0, 1, 2);
        Due.due("lectures() 40", x.lectures(0, 1, 0), 1);
        Due.due("lectures() 41", x.lectures(0, 1, 0), WakefulBed.STATE);
        Due.due("count(8)", x.count(8), 40);
    }

    static void lecturesAreTheObjectsNotTheHouses() {
        WakefulBed x = lectured(40);
        x.image();
        x.restore();
        Due.due("lectures() behind restore()", x.lectures(0, 1, 0), WakefulBed.STATE);
        Due.write(x, "l4,l2;1");
        x.house();
        Due.due("lectures() behind house()", x.lectures(0, 1, 0), WakefulBed.STATE);
    }

    static void lecturesGiveNone() {
        WakefulBed x = Due.house("l4,l2;1");
        WakefulBed y = Due.house("l4,l2;1");
        y.lectures(0, 1, 0);
        x.lectures(0, 3, 1);
        Due.due("digest()", x.digest(), y.digest());
    }

    static void lecturesForNoHourAtAll() {
        lectures("l9,l0;1", 0, 1, 0, WakefulBed.NONE);
        lectures("w0,l9;1", 0, 3, 0, WakefulBed.NONE);
    }

    static void lecturesForAllThreeHours() {
        lectures("v0,w0;1", 0, 3, 3, WakefulBed.NONE);
        lectures("l4,l2;1", 0, 3, 3, 1);
    }

    static void lecturesToOneOf8PutHimToSleep() {
        lectures("l9,l8;1", 0, 1, 1, 1);
    }

    static void lecturesCountTheBedBehindTheLecture() {
        lectures("l4,l2;1", 0, 1, 1, 1);
        lectures("l4,l1;1", 0, 1, 0, WakefulBed.NONE);
    }

    static void lecturesToTheFirstAndToTheLastNumber() {
        lectures("l1,l2,l2,l2,l2;1", 4, 1, 0, WakefulBed.NONE);
        lectures("l1,l3,l3,l3,l2;1", 4, 1, 1, 0);
        lectures("l2,l2,l2,l2,l1;1", 0, 1, 1, 4);
    }

    static void lecturesNobodyIsFirstOfLikeOnes() {
        lectures("l2,l4;1", 0, 1, 1, WakefulBed.NONE);
    }

    /** The lover keeps the bed for three hours by 0, 2, 0, and by 2, 0, 0; by nobody first for two at most. */
    static void lecturesTheLesserNumberIsFirstOfLikeOnes() {
        lectures("m3,v2,l3;2", 1, 3, 3, 0);
    }

    static void lecturesToASleeperAreNone() {
        WakefulBed x = Due.house("l9,l9,w9;1");
        x.lecture(1);
        x.lecture(2);
        lectures(x, 0, 1, 1, WakefulBed.NONE);
    }

    static void lecturesOfASleeperAreAnswered() {
        WakefulBed x = Due.house("l9,l0;4");
        x.lecture(0);
        lectures(x, 0, 3, 0, WakefulBed.NONE);
        // Two hours on he is 4: he wakes behind the next one, while the other one is asleep or more tired.
        Due.pass(x, 2);
        lectures(x, 0, 1, 0, WakefulBed.NONE);
        lectures(x, 0, 2, 1, WakefulBed.NONE);
    }

    /** With a watchman alone nobody's lecture helps: he sleeps behind two hours. */
    static void lecturesThatHelpNothing() {
        lectures("l0,w0;4", 0, 3, 2, WakefulBed.NONE);
    }

    /** One rival alone, of like tiredness and a lesser number: a lecture makes him more tired, or puts him to sleep. */
    static void lecturesToTheLastRival() {
        lectures("v0,l0;1", 1, 1, 1, 0);
        lectures("w0,v9,l9;1", 2, 1, 1, 1);
    }

    // ---- promise 14: sunday

    static void sundayWhatBelow0OrAbove1() {
        for (int what : new int[] {LEAST, -1, 2, MOST}) {
            Cases.refuses(Cases::rich, "sunday(" + what + ")", x -> x.sunday(what), WakefulBed.OUTSIDE);
        }
    }

    static void sundayWithoutAHouse() {
        Cases.refuses(() -> Cases.written("l1,l1;1"), "sunday(0)", x -> x.sunday(0), WakefulBed.STATE);
        Cases.refuses(() -> Cases.written("l1,l1;1"), "sunday(1)", x -> x.sunday(1), WakefulBed.STATE);
    }

    static void sundayOutsideIsToldAheadOfState() {
        Cases.refuses(WakefulBed::new, "sunday(2)", x -> x.sunday(2), WakefulBed.OUTSIDE);
        Cases.refuses(WakefulBed::new, "sunday(-1)", x -> x.sunday(-1), WakefulBed.OUTSIDE);
    }

    static void sundayAskedChangesNothing() {
        // Of 2 at 8, 3 at 6 and 4 at 6 at hour 2: the poet gets 1, 2, 1 more, the lover 0, 1, 0, 1.
        Cases.refuses(Cases::rich, "sunday(0)", x -> x.sunday(0), 23);
        Cases.refuses(Cases::rich, "sunday(1)", x -> x.sunday(1), 4);
    }

    static void sundayOfNobody() {
        sunday(Due.house("w0,w0;1"), WakefulBed.NONE, WakefulBed.NONE);
    }

    static void sundayOfOneAlone() {
        sunday(Due.house("w0,l0,w0;1"), WakefulBed.NONE, WakefulBed.NONE);
        WakefulBed x = Due.house("l9,l0;1");
        x.lecture(0);
        sunday(x, WakefulBed.NONE, WakefulBed.NONE);
    }

    static void sundayOfExactlyTwo() {
        sunday(Due.house("w0,w0,w0,l0,l0;1"), 34, 10);
        sunday(Due.house("l0,w0,w0,w0,l0;1"), 4, 10);
        WakefulBed x = Due.house("l9,l0,l5;1");
        x.lecture(0);
        sunday(x, 12, 5);
    }

    static void sundayTheFirstPairIsTold() {
        sunday(Due.house("l0,l0;1"), 1, 10);
        sunday(Due.house("l5,l5,l5,l5,l5;1"), 1, 5);
    }

    static void sundayTheLongestIsToldThoughOthersAreAhead() {
        sunday(Due.house("m0,l5,l5,l5,l4;1"), 4, 6);
    }

    static void sundayTheLastPairIsTold() {
        sunday(Due.house("l9,l9,l9,l8,l8;1"), 34, 2);
    }

    static void sundayOfLikeOnesTheFirstByNumbers() {
        sunday(Due.house("l4,l4,l9,l9,l4;1"), 1, 6);
        sunday(Due.house("l9,l4,l4,l4,l4;1"), 12, 6);
        sunday(Due.house("l4,l9,l9,l4,l4;1"), 3, 6);
    }

    static void sundayBehindOneHour() {
        sunday(Due.house("l9,m0;1"), 1, 1);
        sunday(Due.house("p9,m0;1"), 1, 1);
    }

    static void sundayIs60AtMost() {
        sunday(Due.house("m0,m0;4"), 1, 60);
        sunday(Due.house("m9,m6;4"), 1, 60);
    }

    static void sundayByDrowseNeither() {
        sunday(Due.house("l0,l0;4"), 1, 10);
    }

    static void sundayOfALoverGoesByTheHour() {
        sunday(Due.house("v9,v9,v0;1"), 1, 2);
        WakefulBed x = Due.house("v9,v9,v0;1");
        x.hour();
        sunday(x, 1, 1);
        sunday(Due.house("v0,v0;1"), 1, 20);
    }

    /** The poet gets 1, 2, 1, 2 .. more from hour 0, but 2, 1, 2, 1 .. from hour 1, with DROWSE for none of it. */
    static void sundayOfAPoetIsAsIfHeHadTheBed() {
        sunday(Due.house("p4,m0;4"), 1, 4);
        sunday(Due.house("p3,m0;4"), 1, 5);
        WakefulBed x = Due.house("p4,m0;1");
        x.hour();
        Due.due("the mourner had the bed", x.about(0, 1), 4);
        sunday(x, 1, 4);
        WakefulBed y = Due.house("p5,m0;1");
        y.hour();
        sunday(y, 1, 3);
        sunday(Due.house("p5,m0;1"), 1, 4);
    }
}
