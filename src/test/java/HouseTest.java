/** Promises 1 to 5: a new object, letter, blank, fault, house. */
final class HouseTest {
    public static void main(String[] args) {
        newObject();
        letters();
        blanks();
        faults();
        houses();
        anotherHouse();
        Due.end();
    }

    private static void newObject() {
        WakefulBed x = new WakefulBed();
        for (int what = 0; what <= 8; what++) {
            Due.due("new: count(" + what + ")", x.count(what), 0);
        }
        Due.due("new: bed()", x.bed(), WakefulBed.STATE);
        Due.due("new: about(0, 0)", x.about(0, 0), WakefulBed.UNKNOWN);
        Due.due("new: fault()", x.fault(), 0);
        Due.due("new: blank()", x.blank(), 0);
        Due.due("new: forget()", x.forget(), 0);
        Due.due("new: restore()", x.restore(), WakefulBed.STATE);
    }

    private static void letters() {
        WakefulBed x = new WakefulBed();
        Due.due("letter(32)", x.letter(32), 1);
        Due.due("letter(126)", x.letter(126), 2);
        int[] outside = {31, 127, 0, -1, Integer.MIN_VALUE, Integer.MAX_VALUE};
        for (int code : outside) {
            Due.refused(x, "letter(" + code + ")", () -> x.letter(code), WakefulBed.OUTSIDE);
        }
        for (int length = 3; length <= 18; length++) {
            Due.due("letter " + length, x.letter('l'), length);
        }
        Due.refused(x, "the 19th letter", () -> x.letter('l'), WakefulBed.FULL);
        Due.refused(x, "the 19th letter, outside", () -> x.letter(31), WakefulBed.OUTSIDE);
        Due.due("count(6)", x.count(6), 18);
    }

    private static void blanks() {
        WakefulBed x = new WakefulBed();
        Due.write(x, "zzz");
        Due.due("blank()", x.blank(), 3);
        Due.due("blank() again", x.blank(), 0);
        Due.due("count(6)", x.count(6), 0);
        Due.write(x, "l1,l1;1");
        Due.due("house() behind blank()", x.house(), 2);
    }

    private static void faultOf(String text, int want) {
        WakefulBed x = new WakefulBed();
        Due.write(x, text);
        Due.due("fault() of " + text, x.fault(), want);
        Due.due("fault() again of " + text, x.fault(), want);
        Due.due("count(6) of " + text, x.count(6), text.length());
    }

    private static void faults() {
        faultOf("l", 1);
        faultOf("L", 0);
        faultOf("0", 0);
        faultOf(",", 0);
        faultOf("la", 1);
        faultOf("l/", 1);
        faultOf("l:", 1);
        faultOf("l0", 2);
        faultOf("l9;", 2);
        faultOf("l9 ", 2);
        faultOf("l9,", 3);
        faultOf("l9,,", 3);
        faultOf("l0,w1,v2,m3,p4;4", 16);
        faultOf("l0,w1,v2,m3,p4,", 14);
        faultOf("l0,w1,v2,m3,p4,l1;", 14);
        faultOf("l0,w1;0", 6);
        faultOf("l0,w1;5", 6);
        faultOf("l0,w1;1", 7);
        faultOf("l0,w1;4", 7);
        faultOf("l0,w1;,", 6);
        faultOf("l0,w1;11", 7);
        faultOf("l0,w1;1,", 7);
        faultOf("l0,w1;1;", 7);
        faultOf("l0,w1,v2;1l0,v1;1", 10);
        faultOf("l0,x1;1", 3);
        faultOf("x0,x1;1", 0);
    }

    private static void noHouse(String text) {
        WakefulBed x = new WakefulBed();
        Due.write(x, text);
        Due.refused(x, "house() of " + text, x::house, WakefulBed.STATE);
    }

    private static void houses() {
        noHouse("");
        noHouse("l1");
        noHouse("l1;1");
        noHouse("l1,l1");
        noHouse("l1,l1,");
        noHouse("l1,l1;");
        noHouse("l1,l1;0");
        noHouse("l1,l1;5");
        noHouse("l1,l1;11");
        noHouse("l1,l1,;1");
        noHouse("l1,l1;1;1");
        noHouse("k1,l1;1");
        noHouse("l0,w1,v2,m3,p4,");
        WakefulBed x = Due.house("l0,w1,v2,m3,p9;3");
        int[] tired = {0, 1, 2, 3, 9};
        for (int lodger = 0; lodger < 5; lodger++) {
            Due.due("kind of " + lodger, x.about(lodger, 0), lodger);
            Due.due("tired of " + lodger, x.about(lodger, 1), tired[lodger]);
            Due.due("asleep of " + lodger, x.about(lodger, 2), 0);
            Due.due("bed hours of " + lodger, x.about(lodger, 4), 0);
        }
        int[] counts = {5, 3, 0, 0, 15, 0, 0, 1, 0};
        for (int what = 0; what <= 8; what++) {
            Due.due("count(" + what + ")", x.count(what), counts[what]);
        }
        Due.house("l0,l0,l0;2");
        Due.house("l0,l0,l0,l0;2");
    }

    private static void anotherHouse() {
        WakefulBed x = Due.house("l9,w9,v3,m4,p5;3");
        x.see(1, 4);
        x.image();
        Due.pass(x, 4);
        x.lectures(2, 1, 0);
        Due.write(x, "m1,p2;9");
        Due.refused(x, "house() of a fault", x::house, WakefulBed.STATE);
        Due.due("restore() behind a refused house()", x.restore(), 0);
        Due.pass(x, 4);
        x.blank();
        Due.write(x, "m1,p2;4");
        Due.due("house() of another", x.house(), 2);
        int[] counts = {2, 4, 0, 0, 3, 0, 0, 2, 1};
        for (int what = 0; what <= 8; what++) {
            Due.due("another: count(" + what + ")", x.count(what), counts[what]);
        }
        Due.due("another: about(0, 0)", x.about(0, 0), 3);
        Due.due("another: about(1, 4)", x.about(1, 4), 0);
        Due.due("another: about(0, 4)", x.about(0, 4), 0);
        Due.due("another: about(2, 0)", x.about(2, 0), WakefulBed.UNKNOWN);
        Due.due("another: restore()", x.restore(), WakefulBed.STATE);
        Due.due("another: forget()", x.forget(), 0);

        WakefulBed sleepers = Due.house("l0,v9;4");
        Due.pass(sleepers, 2);
        Due.due("both sleep", sleepers.count(2), 2);
        Due.due("the first one had the bed", sleepers.about(0, 4), 2);
        Due.write(sleepers, "l5,v5;1");
        sleepers.house();
        Due.due("nobody sleeps", sleepers.count(2), 0);
        Due.due("nobody had the bed", sleepers.about(0, 4), 0);

        WakefulBed y = new WakefulBed();
        y.see(4, WakefulBed.NONE);
        Due.write(y, "m1,p2;4");
        y.house();
        Due.due("what was seen ahead of the first house is gone", y.count(5), 0);
    }
}
