import java.math.BigInteger;
import java.util.ArrayList;
import java.util.List;

/** The boundary cases of "An IMAGE" and of promises 18 to 21, each a test of its own. */
final class AllEdgeTest {
    public static void main(String[] args) throws Exception {
        Cases.run(AllEdgeTest.class);
    }

    // ---- promise 18: image

    static void imageWithoutAHouse() {
        Cases.refuses(() -> Cases.written("l1,l1;1"), "image()", WakefulBed::image, WakefulBed.STATE);
    }

    static void imageAtHour0() {
        WakefulBed x = Due.house("l1,l1;1");
        Due.due("image()", x.image(), 0);
        x.hour();
        Due.due("restore()", x.restore(), 0);
    }

    static void imageOneIsKeptTheLatest() {
        WakefulBed x = Due.house("l1,l1;1");
        x.image();
        x.hour();
        Due.due("image()", x.image(), 1);
        x.hour();
        Due.due("restore()", x.restore(), 1);
        Due.due("restore()", x.restore(), 1);
    }

    static void imageOfNowChangesNothingTold() {
        WakefulBed x = Cases.rich();
        long before = x.digest();
        Due.due("image()", x.image(), 2);
        Due.due("digest()", x.digest(), before);
        Due.due("restore()", x.restore(), 2);
        Due.due("digest()", x.digest(), before);
    }

    static void imageOfNothingSeen() {
        WakefulBed x = Due.house("l1,l1;1");
        x.image();
        for (int seen = 1; seen <= 6; seen++) {
            x.see(seen, 0);
        }
        x.restore();
        Due.due("count(5)", x.count(5), 0);
        Due.due("about(0, 5)", x.about(0, 5), 1023);
    }

    static void imageKeepsBehindHowManyHoursItWasSeen() {
        WakefulBed x = Due.house("w0,l0;1");
        x.see(1, WakefulBed.NONE);
        x.image();
        x.forget();
        x.see(2, WakefulBed.NONE);
        Due.due("behind 2 hours", x.about(1, 5), 0b1111000000);
        x.restore();
        Due.due("behind 1 hour", x.about(1, 5), 0b1100000000);
    }

    static void imageKeepsWhoseItWasSeenToBe() {
        WakefulBed x = Due.house("w0,l0;1");
        x.see(1, WakefulBed.NONE);
        x.image();
        x.forget();
        x.see(1, 1);
        Due.due("his", x.about(1, 5), 0b0011111111);
        x.restore();
        Due.due("nobody's", x.about(1, 5), 0b1100000000);
    }

    static void imageOfAll6Seen() {
        WakefulBed x = Due.house("l4,l2;1");
        for (int seen = 1; seen <= 5; seen++) {
            x.see(0, 1);
        }
        x.see(1, 0);
        int bits = x.about(0, 5);
        x.image();
        x.forget();
        x.see(0, 0);
        x.restore();
        Due.due("count(5)", x.count(5), 6);
        Due.due("about(0, 5)", x.about(0, 5), bits);
        Due.due("see() 7", x.see(0, 0), WakefulBed.FULL);
    }

    // ---- promise 19: restore

    static void restoreWithoutAHouse() {
        Cases.refuses(() -> Cases.written("l1,l1;1"), "restore()", WakefulBed::restore, WakefulBed.STATE);
    }

    static void restoreOfNone() {
        Cases.refuses(() -> Due.house("l1,l1;1"), "restore()", WakefulBed::restore, WakefulBed.STATE);
    }

    private static WakefulBed withAnotherHouse(String text) {
        WakefulBed x = Due.house("l1,l1;1");
        x.hour();
        x.image();
        Due.write(x, text);
        x.house();
        return x;
    }

    static void restoreBehindAnotherHouse() {
        Cases.refuses(() -> withAnotherHouse("m1,m2;3"), "restore()", WakefulBed::restore, WakefulBed.STATE);
    }

    static void restoreBehindAnotherHouseOfTheSameText() {
        Cases.refuses(() -> withAnotherHouse("l1,l1;1"), "restore()", WakefulBed::restore, WakefulBed.STATE);
    }

    static void restoreBehindARefusedHouse() {
        Due.due("restore()", withAnotherHouse("l1,l1;5").restore(), 1);
        Due.due("restore()", withAnotherHouse("").restore(), 1);
    }

    static void restoreOfTheOtherHousesOwnImage() {
        WakefulBed x = withAnotherHouse("m1,m2;3");
        Due.pass(x, 2);
        Due.due("image()", x.image(), 2);
        x.hour();
        Due.due("restore()", x.restore(), 2);
        Due.due("about(0, 0)", x.about(0, 0), 3);
    }

    static void restoreBringsBackHowTiredEachIs() {
        WakefulBed x = Due.house("l1,w2,v3,m4,p5;1");
        x.image();
        for (int lodger = 0; lodger < 5; lodger++) {
            x.lecture(lodger);
        }
        x.restore();
        for (int lodger = 0; lodger < 5; lodger++) {
            Due.due("about(" + lodger + ", 1)", x.about(lodger, 1), lodger + 1);
        }
    }

    static void restoreBringsBackWhoIsAsleep() {
        WakefulBed x = Due.house("w9,m0;1");
        x.hour();
        x.image();
        Due.pass(x, 3);
        Due.due("about(0, 2)", x.about(0, 2), 0);
        x.restore();
        Due.due("about(0, 2)", x.about(0, 2), 1);
        WakefulBed y = Due.house("w9,m0;1");
        y.image();
        y.hour();
        y.restore();
        Due.due("about(0, 2)", y.about(0, 2), 0);
    }

    static void restoreBringsBackHowOftenEachHadTheBed() {
        WakefulBed x = Due.house("v0,w0;1");
        Due.pass(x, 2);
        x.image();
        Due.pass(x, 2);
        Due.due("about(0, 4)", x.about(0, 4), 4);
        x.restore();
        Due.due("about(0, 4)", x.about(0, 4), 2);
    }

    static void restoreBringsBackTheHour() {
        WakefulBed x = Due.house("l0,v5;1");
        x.hour();
        x.image();
        x.hour();
        Due.due("restore()", x.restore(), 1);
        Due.due("count(3)", x.count(3), 1);
        x.hour();
        Due.due("it is the second hour for the lover", x.about(1, 1), 6);
    }

    static void restoreLeavesWhatNoImageKeeps() {
        WakefulBed x = Due.house("l4,l2;1");
        x.image();
        Due.write(x, "l4");
        x.lectures(0, 1, 0);
        x.restore();
        Due.due("count(6)", x.count(6), 2);
        Due.due("count(7)", x.count(7), 1);
        Due.due("count(8)", x.count(8), 1);
    }

    static void restoreTwiceIsTheSame() {
        WakefulBed x = Cases.rich();
        Due.due("restore()", x.restore(), 1);
        long once = x.digest();
        x.coffee(2);
        x.see(0, 0);
        Due.pass(x, 2);
        Due.due("restore()", x.restore(), 1);
        Due.due("digest()", x.digest(), once);
    }

    // ---- promise 20: count

    static void countWhatBelow0OrAbove8() {
        for (int what : new int[] {Integer.MIN_VALUE, -1, 9, Integer.MAX_VALUE}) {
            Cases.refuses(Cases::rich, "count(" + what + ")", x -> x.count(what), WakefulBed.OUTSIDE);
            Cases.refuses(WakefulBed::new, "count(" + what + ")", x -> x.count(what), WakefulBed.OUTSIDE);
        }
    }

    static void countWhat0To8ChangesNothing() {
        int[] want = {5, 2, 1, 2, 31, 2, 3, 1, 1};
        for (int what = 0; what <= 8; what++) {
            int asked = what;
            Cases.refuses(Cases::rich, "count(" + what + ")", x -> x.count(asked), want[what]);
        }
    }

    static void countWithoutAHouse() {
        WakefulBed x = Cases.written("l1,l1;1");
        int[] want = {0, 0, 0, 0, 0, 0, 7, 0, 0};
        for (int what = 0; what <= 8; what++) {
            Due.due("count(" + what + ")", x.count(what), want[what]);
        }
    }

    static void countOfAllAtTheMost() {
        WakefulBed x = Due.house("l9,w9,l9,w9,l9;4");
        x.hour();
        for (int seen = 1; seen <= 6; seen++) {
            x.see(0, 0);
        }
        Due.write(x, "..................");
        int[] want = {5, 4, 5, 1, 50, 6, 18, 1, 0};
        for (int what = 0; what <= 8; what++) {
            Due.due("count(" + what + ")", x.count(what), want[what]);
        }
    }

    static void countOfAllAtTheLeast() {
        WakefulBed x = Due.house("l0,w0;1");
        int[] want = {2, 1, 0, 0, 0, 0, 0, 1, 0};
        for (int what = 0; what <= 8; what++) {
            Due.due("count(" + what + ")", x.count(what), want[what]);
        }
    }

    static void countOfHousesLeavesOutRefusedOnes() {
        WakefulBed x = Due.house("l0,w0;1");
        x.house();
        Due.write(x, "l0,w0;5");
        x.house();
        Due.due("count(7)", x.count(7), 1);
        x.blank();
        Due.write(x, "l0,w0;1");
        x.house();
        Due.due("count(7)", x.count(7), 2);
    }

    // ---- promise 21: digest

    /** The digest of what the other calls tell, by numbers that do not wrap around but at the end. */
    private static long digestOf(WakefulBed x, String pageText) {
        List<Long> numbers = new ArrayList<>();
        for (int lodger = 0; lodger < x.count(0); lodger++) {
            for (int what = 0; what <= 6; what++) {
                numbers.add((long) x.about(lodger, what));
            }
            numbers.add(x.about(lodger, 2) == 1 ? 0L : x.cups(lodger, 3));
        }
        if (x.count(0) > 0) {
            numbers.add((long) x.bed());
            numbers.add((long) x.sunday(0));
            numbers.add((long) x.sunday(1));
        }
        pageText.chars().forEach(code -> numbers.add((long) code));
        for (int what = 0; what <= 8; what++) {
            numbers.add((long) x.count(what));
        }
        BigInteger h = BigInteger.valueOf(953);
        for (long number : numbers) {
            h = h.multiply(BigInteger.valueOf(31)).add(BigInteger.valueOf(number));
        }
        return h.longValue();
    }

    private static void digestIsTold(WakefulBed x, String pageText) {
        Due.due("digest()", x.digest(), digestOf(x, pageText));
    }

    /** 953 times 31 to the 9, which does not reach the bound of a long. */
    static void digestOfANewObject() {
        Due.due("digest()", new WakefulBed().digest(), 25196959919119463L);
    }

    static void digestWithoutAHouseTellsNoBed() {
        digestIsTold(Cases.written("l1"), "l1");
        WakefulBed x = new WakefulBed();
        x.see(0, WakefulBed.NONE);
        digestIsTold(x, "");
    }

    static void digestOfAFullPageWrapsAround() {
        String text = "~~~~~~~~~~~~~~~~~~";
        digestIsTold(Cases.written(text), text);
    }

    static void digestTellsTheOrderOfThePage() {
        digestIsTold(Cases.written("~ "), "~ ");
        digestIsTold(Cases.written(" ~"), " ~");
    }

    static void digestOfTwoAndOfFive() {
        digestIsTold(Due.house("l0,l0;1"), "");
        digestIsTold(Due.house("l1,w2,v3,m4,p5;4"), "");
    }

    static void digestOfASleeperTells0Cups() {
        WakefulBed x = Due.house("l9,l0;1");
        x.lecture(0);
        Due.due("cups(0, 3)", x.cups(0, 3), WakefulBed.STATE);
        digestIsTold(x, "");
    }

    static void digestOfNoCupsThatHelpTellsNone() {
        WakefulBed x = Due.house("w0,l0;4");
        Due.due("cups(0, 3)", x.cups(0, 3), WakefulBed.NONE);
        digestIsTold(x, "");
    }

    static void digestTellsCupsFor3HoursAlone() {
        WakefulBed x = Due.house("l4,w0;1");
        Due.due("cups(0, 2)", x.cups(0, 2), 0);
        Due.due("cups(0, 3)", x.cups(0, 3), 0);
        Due.due("cups(0, 4)", x.cups(0, 4), 1);
        digestIsTold(x, "");
        WakefulBed y = Due.house("l6,w0;1");
        Due.due("cups(0, 2)", y.cups(0, 2), 0);
        Due.due("cups(0, 3)", y.cups(0, 3), 1);
        digestIsTold(y, "");
    }

    static void digestOfNobodysBedAndNoSunday() {
        digestIsTold(Due.house("w0,w0;1"), "");
    }

    static void digestOfNothingPossible() {
        WakefulBed x = Due.house("l5,l0;1");
        x.see(0, WakefulBed.NONE);
        digestIsTold(x, "");
    }

    static void digestOfABitOfEverything() {
        digestIsTold(Cases.rich(), "l4,");
    }

    static void digestAskedChangesNothing() {
        Cases.refuses(Cases::rich, "digest()", WakefulBed::digest, digestOf(Cases.rich(), "l4,"));
    }

    static void digestDoesNoLectures() {
        WakefulBed x = Cases.rich();
        x.digest();
        Due.due("count(8)", x.count(8), 1);
    }
}
