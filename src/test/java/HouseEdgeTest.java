/** The boundary cases of "What it is" and of promises 1 to 5, each a test of its own. */
final class HouseEdgeTest {
    private static final int LEAST = Integer.MIN_VALUE, MOST = Integer.MAX_VALUE;

    public static void main(String[] args) throws Exception {
        Cases.run(HouseEdgeTest.class);
    }

    /** Which codes a page that begins so takes behind it without a fault. */
    private static String takenBehind(String ahead) {
        StringBuilder taken = new StringBuilder();
        for (int code = 32; code <= 126; code++) {
            WakefulBed x = Cases.written(ahead);
            x.letter(code);
            int fault = x.fault();
            Due.isTrue("fault() behind " + ahead, fault == ahead.length() || fault == ahead.length() + 1);
            taken.append(fault == ahead.length() ? "" : (char) code);
        }
        return taken.toString();
    }

    private static void takes(String ahead, String want) {
        String taken = takenBehind(ahead);
        Due.isTrue("behind '" + ahead + "' comes one of '" + want + "', taken was '" + taken + "'", taken.equals(want));
    }

    private static void isNone(String text) {
        Cases.refuses(() -> Cases.written(text), "house() of '" + text + "'", WakefulBed::house, WakefulBed.STATE);
    }

    private static void faultIs(String text, int want) {
        WakefulBed x = Cases.written(text);
        Due.due("fault() of '" + text + "'", x.fault(), want);
    }

    // ---- a HOUSE is a text

    static void textOneLodgerIsTooFew() {
        faultIs("l1;1", 2);
        isNone("l1;1");
    }

    static void textTwoLodgersAreEnough() {
        Due.due("house()", Cases.written("l1,l1;1").house(), 2);
    }

    static void textFiveLodgersAreNotTooMany() {
        Due.due("house()", Cases.written("l1,l1,l1,l1,l1;1").house(), 5);
    }

    static void textSixLodgersAreTooMany() {
        faultIs("l1,l1,l1,l1,l1,l1;", 14);
        isNone("l1,l1,l1,l1,l1,l1;");
    }

    static void textNoLodgerAtAll() {
        faultIs(";1", 0);
        isNone(";1");
    }

    static void textKindIsOneOfFiveLetters() {
        takes("", "lmpvw");
        takes("l0,", "lmpvw");
        takes("l0,l0,l0,l0,", "lmpvw");
    }

    static void textTiredIsADigit() {
        takes("l", "0123456789");
        takes("l0,w", "0123456789");
        takes("l0,l0,l0,l0,p", "0123456789");
    }

    static void textOneTiredDigitAlone() {
        faultIs("l10,l1;1", 2);
        isNone("l10,l1;1");
    }

    static void textBehindTheFirstLodgerComesAnother() {
        takes("l0", ",");
    }

    static void textBehindTheSecondToFourthAnotherOrTheEnd() {
        takes("l0,l0", ",;");
        takes("l0,l0,l0", ",;");
        takes("l0,l0,l0,l0", ",;");
    }

    static void textBehindTheFifthComesTheEnd() {
        takes("l0,l0,l0,l0,l0", ";");
    }

    static void textDrowseIs1To4() {
        takes("l0,l0;", "1234");
        takes("l0,l0,l0,l0,l0;", "1234");
    }

    static void textBehindDrowseComesNothing() {
        takes("l0,l0;1", "");
        takes("l0,l0,l0;2", "");
        takes("l0,l0,l0,l0;3", "");
        takes("l0,l0,l0,l0,l0;4", "");
    }

    static void textTiredLeastAndMostAreRead() {
        WakefulBed x = Due.house("l0,l9;1");
        Due.due("about(0, 1)", x.about(0, 1), 0);
        Due.due("about(1, 1)", x.about(1, 1), 9);
    }

    static void textDrowseLeastAndMostAreRead() {
        Due.due("count(1)", Due.house("l0,l9;1").count(1), 1);
        Due.due("count(1)", Due.house("l0,l9;4").count(1), 4);
    }

    static void textLodgersAreNumberedFrom0() {
        WakefulBed x = Due.house("l0,w1,v2,m3,p4;1");
        for (int lodger = 0; lodger < 5; lodger++) {
            Due.due("about(" + lodger + ", 1)", x.about(lodger, 1), lodger);
            Due.due("about(" + lodger + ", 0)", x.about(lodger, 0), lodger);
        }
    }

    /** 8 calls make the house, 503 are hours; a watchman of 10 is so again every 12 hours, first at hour 10. */
    static void callTheLastOf512IsAnswered() {
        WakefulBed x = Cases.written("w0,w5;1");
        x.house();
        Due.pass(x, 503);
        Due.due("call 512", x.about(0, 1), 7);
    }

    static void callTheLastOf512MayBeTheDearest() {
        WakefulBed x = Cases.written("w0,w5;1");
        x.house();
        WakefulBed early = Cases.written("w0,w5;1");
        early.house();
        for (int call = 9; call <= 511; call++) {
            x.bed();
        }
        Due.due("call 512", x.digest(), early.digest());
    }

    // ---- promise 1: a new object

    static void newCountsAllAre0() {
        WakefulBed x = new WakefulBed();
        for (int what = 0; what <= 8; what++) {
            Due.due("count(" + what + ")", x.count(what), 0);
        }
    }

    static void newHasNoLodger() {
        Cases.refuses(WakefulBed::new, "about(0, 0)", x -> x.about(0, 0), WakefulBed.UNKNOWN);
        Cases.refuses(WakefulBed::new, "as(0, 0)", x -> x.as(0, 0), WakefulBed.UNKNOWN);
        Cases.refuses(WakefulBed::new, "coffee(0)", x -> x.coffee(0), WakefulBed.UNKNOWN);
        Cases.refuses(WakefulBed::new, "lecture(0)", x -> x.lecture(0), WakefulBed.UNKNOWN);
        Cases.refuses(WakefulBed::new, "cups(0, 1)", x -> x.cups(0, 1), WakefulBed.UNKNOWN);
        Cases.refuses(WakefulBed::new, "lectures(0, 1, 0)", x -> x.lectures(0, 1, 0), WakefulBed.UNKNOWN);
        Cases.refuses(WakefulBed::new, "see(0, 0)", x -> x.see(0, 0), WakefulBed.UNKNOWN);
    }

    static void newHasNoHouse() {
        Cases.refuses(WakefulBed::new, "house()", WakefulBed::house, WakefulBed.STATE);
        Cases.refuses(WakefulBed::new, "bed()", WakefulBed::bed, WakefulBed.STATE);
        Cases.refuses(WakefulBed::new, "hour()", WakefulBed::hour, WakefulBed.STATE);
        Cases.refuses(WakefulBed::new, "sunday(0)", x -> x.sunday(0), WakefulBed.STATE);
        Cases.refuses(WakefulBed::new, "nights(1, 0, 0)", x -> x.nights(1, 0, 0), WakefulBed.STATE);
        Cases.refuses(WakefulBed::new, "image()", WakefulBed::image, WakefulBed.STATE);
        Cases.refuses(WakefulBed::new, "restore()", WakefulBed::restore, WakefulBed.STATE);
    }

    static void newHasAnEmptyPage() {
        Due.due("fault()", new WakefulBed().fault(), 0);
        Due.due("blank()", new WakefulBed().blank(), 0);
        Due.due("letter(32)", new WakefulBed().letter(32), 1);
    }

    static void newHasNothingSeen() {
        Due.due("forget()", new WakefulBed().forget(), 0);
    }

    static void newIsApartFromAnother() {
        WakefulBed one = Cases.rich();
        long before = one.digest();
        WakefulBed other = Due.house("p0,p0;4");
        Due.pass(other, 3);
        Due.due("digest()", one.digest(), before);
    }

    // ---- promise 2: letter

    static void letterCode31IsTooSmall() {
        Cases.refuses(Cases::rich, "letter(31)", x -> x.letter(31), WakefulBed.OUTSIDE);
    }

    static void letterCode32IsTheLeast() {
        Due.due("letter(32)", Cases.rich().letter(32), 4);
    }

    static void letterCode126IsTheMost() {
        Due.due("letter(126)", Cases.rich().letter(126), 4);
    }

    static void letterCode127IsTooLarge() {
        Cases.refuses(Cases::rich, "letter(127)", x -> x.letter(127), WakefulBed.OUTSIDE);
    }

    static void letterCodesFarOutside() {
        for (int code : new int[] {LEAST, -1, 0, 65536 + 'l', 256 + 'l', MOST}) {
            Cases.refuses(Cases::rich, "letter(" + code + ")", x -> x.letter(code), WakefulBed.OUTSIDE);
        }
    }

    static void letterEveryCodeWithinIsTaken() {
        for (int code = 32; code <= 126; code++) {
            Due.due("letter(" + code + ")", new WakefulBed().letter(code), 1);
        }
    }

    private static WakefulBed fullPage() {
        return Cases.written("l1,l1,l1,l1,l1,l1,");
    }

    static void letterThe18thIsTaken() {
        Due.due("letter 18", Cases.written("l1,l1,l1,l1,l1,l1").letter(','), 18);
    }

    static void letterThe19thIsFull() {
        Cases.refuses(HouseEdgeTest::fullPage, "letter 19", x -> x.letter('l'), WakefulBed.FULL);
    }

    static void letterOutsideIsToldAheadOfFull() {
        Cases.refuses(HouseEdgeTest::fullPage, "letter 19, 31", x -> x.letter(31), WakefulBed.OUTSIDE);
        Cases.refuses(HouseEdgeTest::fullPage, "letter 19, 127", x -> x.letter(127), WakefulBed.OUTSIDE);
    }

    static void letterOnceFullThenBlankIsTaken() {
        WakefulBed x = fullPage();
        x.letter('l');
        x.blank();
        Due.due("letter()", x.letter('l'), 1);
    }

    // ---- promise 3: blank

    static void blankOfAnEmptyPage() {
        Due.due("blank()", Due.house("l0,l0;1").blank(), 0);
    }

    static void blankOfOneLetter() {
        Due.due("blank()", Cases.written("l").blank(), 1);
    }

    static void blankOfAFullPage() {
        Due.due("blank()", fullPage().blank(), 18);
    }

    static void blankTwice() {
        WakefulBed x = fullPage();
        x.blank();
        Due.due("blank()", x.blank(), 0);
        Due.due("count(6)", x.count(6), 0);
    }

    static void blankLeavesTheHouse() {
        WakefulBed x = Cases.rich();
        int tired = x.count(4);
        Due.due("blank()", x.blank(), 3);
        Due.due("count(0)", x.count(0), 5);
        Due.due("count(4)", x.count(4), tired);
        Due.due("count(5)", x.count(5), 2);
        Due.due("restore()", x.restore(), 1);
    }

    // ---- promise 4: fault

    static void faultOfAnEmptyPage() {
        faultIs("", 0);
    }

    static void faultInTheFirstLetter() {
        faultIs("x", 0);
        faultIs("x1,l1;1", 0);
    }

    static void faultInTheLastLetterOfAHouse() {
        faultIs("l1,l1;0", 6);
        faultIs("l1,l1,l1,l1,l1;5", 15);
    }

    static void faultBehindTheLeastHouse() {
        faultIs("l1,l1;11", 7);
    }

    static void faultBehindTheGreatestHouse() {
        faultIs("l1,l1,l1,l1,l1;11", 16);
    }

    static void faultOfAHouseIsNone() {
        faultIs("l1,l1;1", 7);
        faultIs("l1,l1,l1,l1,l1;1", 16);
    }

    static void faultOfABeginningIsNone() {
        String text = "l1,w2,v3,m4,p5;4";
        for (int length = 0; length <= text.length(); length++) {
            faultIs(text.substring(0, length), length);
        }
    }

    static void faultTheFirstOfTwoIsTold() {
        faultIs("l1x,1;1", 2);
        faultIs("lxxx", 1);
    }

    static void faultOfAFullPage() {
        faultIs("l1,l1,l1,l1,l1,l1,", 14);
        faultIs("l1,l1;1l1,l1;1l1,l", 7);
        faultIs("                  ", 0);
    }

    static void faultChangesNothing() {
        Cases.refuses(Cases::rich, "fault()", WakefulBed::fault, 3);
    }

    // ---- promise 5: house

    static void houseOfAnEmptyPage() {
        isNone("");
        WakefulBed x = Due.house("l1,l1;1");
        Due.refused(x, "house() again", x::house, WakefulBed.STATE);
    }

    static void houseOfEveryBeginningIsNone() {
        String text = "l1,w2,v3,m4,p5;4";
        for (int length = 0; length < text.length(); length++) {
            isNone(text.substring(0, length));
        }
    }

    static void houseWithOneLetterMoreIsNone() {
        isNone("l1,l1;11");
        isNone("l1,l1;1 ");
        isNone("l1,l1,l1,l1,l1;1;");
    }

    static void houseWithDrowse0Or5IsNone() {
        isNone("l1,l1;0");
        isNone("l1,l1;5");
    }

    static void houseOfAFullPageIsNone() {
        isNone("l1,l1,l1,l1,l1,l1,");
    }

    static void houseRefusedKeepsTheOldOne() {
        Cases.refuses(Cases::rich, "house()", WakefulBed::house, WakefulBed.STATE);
    }

    static void houseEmptiesThePage() {
        WakefulBed x = Cases.written("l1,l1,l1,l1,l1;1");
        Due.due("house()", x.house(), 5);
        Due.due("count(6)", x.count(6), 0);
        Due.due("blank()", x.blank(), 0);
    }

    static void houseBeginsAtHour0WithAllAwake() {
        WakefulBed x = Due.house("l9,w9,v9,m9,p9;4");
        Due.due("count(3)", x.count(3), 0);
        Due.due("count(2)", x.count(2), 0);
        for (int lodger = 0; lodger < 5; lodger++) {
            Due.due("about(" + lodger + ", 2)", x.about(lodger, 2), 0);
        }
    }

    static void houseAnotherOneIsGoneWithAllThatWas() {
        WakefulBed x = Cases.rich();
        x.blank();
        Due.write(x, "w3,p3;1");
        Due.due("house()", x.house(), 2);
        int[] want = {2, 1, 0, 0, 6, 0, 0, 2, 1};
        for (int what = 0; what <= 8; what++) {
            Due.due("count(" + what + ")", x.count(what), want[what]);
        }
        for (int lodger = 0; lodger < 2; lodger++) {
            Due.due("about(" + lodger + ", 2)", x.about(lodger, 2), 0);
            Due.due("about(" + lodger + ", 4)", x.about(lodger, 4), 0);
            Due.due("about(" + lodger + ", 5)", x.about(lodger, 5), 1023);
        }
        Due.due("about(2, 0)", x.about(2, 0), WakefulBed.UNKNOWN);
        Due.due("restore()", x.restore(), WakefulBed.STATE);
    }

    static void houseOfTheSameTextCountsBedHoursFrom0() {
        WakefulBed x = Due.house("l0,w0;1");
        Due.pass(x, 2);
        Due.due("about(0, 4)", x.about(0, 4), 2);
        Due.write(x, "l0,w0;1");
        x.house();
        Due.due("about(0, 4)", x.about(0, 4), 0);
    }

    static void houseOfFiveBehindOneOfTwo() {
        WakefulBed x = Due.house("l9,l9;4");
        Due.pass(x, 2);
        Due.write(x, "l1,l2,l3,l4,l5;1");
        Due.due("house()", x.house(), 5);
        Due.due("about(4, 1)", x.about(4, 1), 5);
        Due.due("count(2)", x.count(2), 0);
    }
}
