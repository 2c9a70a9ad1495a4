/** Promises 18 to 21: image, restore, count, digest. */
final class AllTest {
    public static void main(String[] args) {
        images();
        imagesRefused();
        counts();
        digests();
        Due.end();
    }

    private static void images() {
        WakefulBed x = Due.house("l9,w8,v3,m4,p5;3");
        x.see(1, 4);
        x.see(2, -1);
        Due.pass(x, 3);
        long kept = x.digest();
        Due.due("image()", x.image(), 3);
        Due.due("image() changed nothing", x.digest(), kept);
        x.forget();
        x.see(9, 0);
        Due.pass(x, 5);
        x.coffee(2);
        Due.due("restore()", x.restore(), 3);
        Due.due("all is as it was kept", x.digest(), kept);
        Due.pass(x, 2);
        Due.due("restore() again", x.restore(), 3);
        Due.due("all is as it was kept, again", x.digest(), kept);
        x.hour();
        Due.due("a later image()", x.image(), 4);
        long later = x.digest();
        x.hour();
        x.see(5, 1);
        Due.due("restore() of the latest", x.restore(), 4);
        Due.due("all is as it was kept later", x.digest(), later);

        WakefulBed sight = Due.house("l4,l2;1");
        sight.see(0, 0);
        sight.image();
        sight.forget();
        sight.see(0, 1);
        Due.due("1 was seen", sight.about(0, 5), 0b1111111000);
        sight.restore();
        Due.due("0 was seen", sight.about(0, 5), 0b111);

        Due.write(x, "l0");
        x.lectures(0, 1, 0);
        x.restore();
        Due.due("the page is no part of it", x.count(6), 2);
        Due.due("nor is how often lectures() was done", x.count(8), 1);
        Due.due("nor how often a house was read", x.count(7), 1);
    }

    private static void imagesRefused() {
        WakefulBed x = new WakefulBed();
        Due.refused(x, "image() without a house", x::image, WakefulBed.STATE);
        Due.refused(x, "restore() without a house", x::restore, WakefulBed.STATE);
        Due.write(x, "l1,l2;1");
        x.house();
        Due.refused(x, "restore() of none", x::restore, WakefulBed.STATE);
        x.image();
        Due.write(x, "l1,l2;1");
        x.house();
        Due.refused(x, "restore() behind another house", x::restore, WakefulBed.STATE);
        Due.due("image() of the other one", x.image(), 0);
        Due.due("restore() of the other one", x.restore(), 0);
    }

    private static void counts() {
        WakefulBed x = Due.house("l9,w8,v3;3");
        Due.pass(x, 2);
        // Hour 1: the lover is 6, the lodger 10, the watchman 9. Hour 2: 10, 7, 10.
        x.see(0, -1);
        x.lectures(0, 1, 0);
        Due.write(x, "abcd");
        int[] want = {3, 3, 3, 2, 27, 1, 4, 1, 1};
        for (int what = 0; what <= 8; what++) {
            Due.due("count(" + what + ")", x.count(what), want[what]);
        }
        int[] outside = {-1, 9, Integer.MIN_VALUE, Integer.MAX_VALUE};
        for (int what : outside) {
            Due.refused(x, "count(" + what + ")", () -> x.count(what), WakefulBed.OUTSIDE);
        }
        WakefulBed y = new WakefulBed();
        Due.due("count(9) without a house", y.count(9), WakefulBed.OUTSIDE);
    }

    private static long told(WakefulBed x, String pageText) {
        long h = 953;
        for (int lodger = 0; lodger < x.count(0); lodger++) {
            for (int what = 0; what <= 6; what++) {
                h = 31 * h + x.about(lodger, what);
            }
            h = 31 * h + (x.about(lodger, 2) == 1 ? 0 : x.cups(lodger, 3));
        }
        if (x.count(0) > 0) {
            h = 31 * h + x.bed();
            h = 31 * h + x.sunday(0);
            h = 31 * h + x.sunday(1);
        }
        for (int place = 0; place < pageText.length(); place++) {
            h = 31 * h + pageText.charAt(place);
        }
        for (int what = 0; what <= 8; what++) {
            h = 31 * h + x.count(what);
        }
        return h;
    }

    private static void digests() {
        WakefulBed x = new WakefulBed();
        long empty = 953;
        for (int what = 0; what <= 8; what++) {
            empty = 31 * empty;
        }
        Due.due("digest() of nothing", x.digest(), empty);
        Due.write(x, "l9~ ");
        Due.due("digest() of a page", x.digest(), told(x, "l9~ "));
        x.blank();
        Due.write(x, "l9,w8,v3,m4,p5;3");
        x.house();
        Due.due("digest() of a house", x.digest(), told(x, ""));
        x.see(3, 2);
        Due.pass(x, 4);
        x.lectures(3, 2, 0);
        Due.write(x, "vm");
        Due.due("digest() of all", x.digest(), told(x, "vm"));
        WakefulBed cups = Due.house("l4,l2;1");
        Due.due("digest() with cups for 3 hours alone", cups.digest(), told(cups, ""));
        Due.due("digest() changes nothing", x.digest(), told(x, "vm"));
    }
}
