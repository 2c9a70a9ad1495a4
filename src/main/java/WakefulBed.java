/**
 * A lodging house that lets its one bed to whoever can least sleep: hours, coffee and lectures, what they would
 * come to, and what can be told from having seen whose the bed was. Every refusal is a number below -100.
 */
public final class WakefulBed {
    public static final int NONE = -1, UNKNOWN = -101, OUTSIDE = -102, STATE = -103, FULL = -104;

    private static final int LODGER = 0, WATCHMAN = 1, LOVER = 2, MOURNER = 3, POET = 4;
    private static final int KINDS = 5;

    private static final int FIRST_CODE = 32, LAST_CODE = 126;
    private static final int MOST_LETTERS = 18;
    private static final int MOST_LODGERS = 5;
    private static final int MOST_SEEN = 6;

    private static final int MOST_CUPS = 4, MOST_CUP_HOURS = 6;
    private static final int MOST_LECTURE_HOURS = 3, MOST_LECTURE_CALLS = 40;
    private static final int MOST_SUNDAY_HOURS = 60, MOST_NIGHT_HOURS = 60;
    private static final int LAST_LOOK = 12;

    private static final int TIRED_ASLEEP = 10, TIRED_WAKING = 2;

    private final Page page;
    private final Night now;
    private final Seen seen;
    private final Night nowKept;
    private final Seen seenKept;
    private boolean isKept;
    private final Night would;
    private final LecturePlan plan;
    private final Guess guess;
    private int housesRead;
    private int lecturesDone;

    public WakefulBed() {
        page = new Page();
        now = new Night();
        seen = new Seen();
        nowKept = new Night();
        seenKept = new Seen();
        isKept = false;
        would = new Night();
        plan = new LecturePlan();
        guess = new Guess();
        housesRead = 0;
        lecturesDone = 0;
    }

    // ---- the house

    public int letter(int code) {
        if (!isWithin(code, FIRST_CODE, LAST_CODE)) {
            return OUTSIDE;
        }
        if (page.length() >= MOST_LETTERS) {
            return FULL;
        }
        return page.put(code);
    }

    public int blank() {
        return page.empty();
    }

    public int fault() {
        return page.firstFault();
    }

    public int house() {
        if (!page.isHouse()) {
            return STATE;
        }
        now.begin(page);
        page.empty();
        seen.empty();
        isKept = false;
        housesRead++;
        return now.lodgers();
    }

    // ---- lodgers

    public int about(int lodger, int what) {
        if (!now.knows(lodger)) {
            return UNKNOWN;
        }
        switch (what) {
            case 0:
                return now.kindOf(lodger);
            case 1:
                return now.tiredOf(lodger);
            case 2:
                return now.sleeps(lodger) ? 1 : 0;
            case 3:
                return now.whoseBed() == lodger ? 1 : 0;
            case 4:
                return now.bedHoursOf(lodger);
            case 5:
                guess.make(now, seen, lodger);
                return guess.possible();
            case 6:
                guess.make(now, seen, lodger);
                return guess.bestLook();
            default:
                return OUTSIDE;
        }
    }

    public int as(int lodger, int kind) {
        if (!now.knows(lodger)) {
            return UNKNOWN;
        }
        if (!isWithin(kind, 0, KINDS - 1)) {
            return OUTSIDE;
        }
        return isAlso(now.kindOf(lodger), kind) ? lodger : NONE;
    }

    public int bed() {
        return hasHouse() ? now.whoseBed() : STATE;
    }

    public int coffee(int lodger) {
        if (!now.knows(lodger)) {
            return UNKNOWN;
        }
        if (now.sleeps(lodger)) {
            return STATE;
        }
        now.giveCoffee(lodger);
        return now.tiredOf(lodger);
    }

    public int lecture(int lodger) {
        if (!now.knows(lodger)) {
            return UNKNOWN;
        }
        if (now.sleeps(lodger)) {
            return STATE;
        }
        now.giveLecture(lodger);
        return now.tiredOf(lodger);
    }

    public int hour() {
        if (!hasHouse()) {
            return STATE;
        }
        now.passHour();
        return now.sleepers();
    }

    // ---- what would be

    public int cups(int lodger, int hours) {
        if (!now.knows(lodger)) {
            return UNKNOWN;
        }
        if (!isWithin(hours, 1, MOST_CUP_HOURS)) {
            return OUTSIDE;
        }
        if (now.sleeps(lodger)) {
            return STATE;
        }
        return fewestCups(lodger, hours);
    }

    public int lectures(int lodger, int hours, int what) {
        if (!now.knows(lodger)) {
            return UNKNOWN;
        }
        if (!isWithin(hours, 1, MOST_LECTURE_HOURS) || !isWithin(what, 0, 1)) {
            return OUTSIDE;
        }
        if (lecturesDone >= MOST_LECTURE_CALLS) {
            return STATE;
        }
        lecturesDone++;
        plan.make(now, lodger, hours);
        return what == 0 ? plan.hoursInBed() : plan.firstHearer();
    }

    public int sunday(int what) {
        if (!isWithin(what, 0, 1)) {
            return OUTSIDE;
        }
        if (!hasHouse()) {
            return STATE;
        }
        int pair = now.mostWakefulPair();
        if (pair == NONE || what == 0) {
            return pair;
        }
        return now.hoursTogether(pair / 10, pair % 10);
    }

    // ---- what is seen

    public int see(int hours, int lodger) {
        if (!isWithin(hours, 0, LAST_LOOK)) {
            return OUTSIDE;
        }
        if (lodger != NONE && !now.knows(lodger)) {
            return UNKNOWN;
        }
        if (seen.size() >= MOST_SEEN) {
            return FULL;
        }
        return seen.put(hours, lodger);
    }

    public int forget() {
        return seen.empty();
    }

    public int nights(int hours, int seed, int what) {
        if (!isWithin(hours, 1, MOST_NIGHT_HOURS) || seed < 0 || !isWithin(what, 0, 2)) {
            return OUTSIDE;
        }
        if (!hasHouse()) {
            return STATE;
        }
        would.copyFrom(now);
        int drawn = seed;
        int hoursOfFirst = 0;
        for (int passed = 0; passed < hours; passed++) {
            drawn = nextSeed(drawn);
            would.giveCoffee(drawOf(drawn, would.lodgers()));
            drawn = nextSeed(drawn);
            would.giveLecture(drawOf(drawn, would.lodgers()));
            hoursOfFirst += would.whoseBed() == 0 ? 1 : 0;
            would.passHour();
        }
        if (what == 2) {
            return drawn;
        }
        return what == 0 ? hoursOfFirst : would.sleepers();
    }

    // ---- what is told of all

    public int image() {
        if (!hasHouse()) {
            return STATE;
        }
        nowKept.copyFrom(now);
        seenKept.copyFrom(seen);
        isKept = true;
        return now.hoursPassed();
    }

    public int restore() {
        if (!isKept) {
            return STATE;
        }
        now.copyFrom(nowKept);
        seen.copyFrom(seenKept);
        return now.hoursPassed();
    }

    public int count(int what) {
        switch (what) {
            case 0:
                return now.lodgers();
            case 1:
                return now.drowse();
            case 2:
                return now.sleepers();
            case 3:
                return now.hoursPassed();
            case 4:
                return now.tiredTogether();
            case 5:
                return seen.size();
            case 6:
                return page.length();
            case 7:
                return housesRead;
            case 8:
                return lecturesDone;
            default:
                return OUTSIDE;
        }
    }

    public long digest() {
        long h = 953;
        for (int lodger = 0; lodger < now.lodgers(); lodger++) {
            for (int what = 0; what <= 6; what++) {
                h = mixed(h, about(lodger, what));
            }
            h = mixed(h, now.sleeps(lodger) ? 0 : fewestCups(lodger, 3));
        }
        if (hasHouse()) {
            h = mixed(h, bed());
            h = mixed(h, sunday(0));
            h = mixed(h, sunday(1));
        }
        for (int place = 0; place < page.length(); place++) {
            h = mixed(h, page.codeAt(place));
        }
        for (int what = 0; what <= 8; what++) {
            h = mixed(h, count(what));
        }
        return h;
    }

    private boolean hasHouse() {
        return now.lodgers() > 0;
    }

    private int fewestCups(int lodger, int hours) {
        for (int cups = 0; cups <= MOST_CUPS; cups++) {
            would.copyFrom(now);
            for (int drunk = 0; drunk < cups; drunk++) {
                would.giveCoffee(lodger);
            }
            if (would.keepsBed(lodger, hours)) {
                return cups;
            }
        }
        return NONE;
    }

    private static boolean isWithin(int number, int least, int most) {
        return number >= least && number <= most;
    }

    private static long mixed(long h, long number) {
        return 31 * h + number;
    }

    // An int's wrap-around loses only multiples of 2 to the 32, so the rest by 2 to the 31 is still right.
    private static int nextSeed(int seed) {
        return (1103515245 * seed + 12345) & 0x7fffffff;
    }

    private static int drawOf(int seed, int howMany) {
        return howMany > 0 ? seed / 65536 % howMany : 0;
    }

    private static int kindByLetter(int code) {
        switch (code) {
            case 'l':
                return LODGER;
            case 'w':
                return WATCHMAN;
            case 'v':
                return LOVER;
            case 'm':
                return MOURNER;
            case 'p':
                return POET;
            default:
                return NONE;
        }
    }

    private static boolean isAlso(int kind, int other) {
        return other == LODGER || other == kind || other == LOVER && kind == POET;
    }

    private static int tiredByHour(int kind, int tired, int hourNumber, boolean inBed) {
        int byEvenHour = hourNumber % 2 == 0 ? 1 : 0;
        switch (kind) {
            case LOVER:
                return byEvenHour;
            case MOURNER:
                return tired < 6 ? 1 : 0;
            case POET:
                return byEvenHour + (inBed ? 1 : 0);
            default:
                return 1;
        }
    }

    /** The letters put down so far, which may read as a house. */
    private static final class Page {
        // A lodger takes three places, the sign behind him the last of these.
        private static final int PLACES = 3;
        private static final int FIRST_END = 2 * PLACES - 1, LAST_END = MOST_LODGERS * PLACES - 1;

        private final int[] codes;
        private int length;

        Page() {
            codes = new int[MOST_LETTERS];
            length = 0;
        }

        int length() {
            return length;
        }

        int codeAt(int place) {
            return place >= 0 && place < length ? codes[place] : 0;
        }

        int digitAt(int place) {
            return codeAt(place) - '0';
        }

        int put(int code) {
            if (length < codes.length) {
                codes[length] = code;
                length++;
            }
            return length;
        }

        int empty() {
            int had = length;
            length = 0;
            return had;
        }

        int firstFault() {
            for (int place = 0; place < length; place++) {
                if (!fits(place)) {
                    return place;
                }
            }
            return length;
        }

        boolean isHouse() {
            return codeAt(length - 2) == ';' && firstFault() == length;
        }

        int lodgers() {
            return length / PLACES;
        }

        int kindOf(int lodger) {
            return kindByLetter(codeAt(lodger * PLACES));
        }

        int tiredOf(int lodger) {
            return digitAt(lodger * PLACES + 1);
        }

        int drowse() {
            return digitAt(length - 1);
        }

        // Holds only if all letters ahead fit: then a ';' can be nowhere but behind the last lodger.
        private boolean fits(int place) {
            int code = codeAt(place);
            if (codeAt(place - 1) == ';') {
                return isWithin(code, '1', '4');
            }
            if (codeAt(place - 2) == ';') {
                return false;
            }
            switch (place % PLACES) {
                case 0:
                    return kindByLetter(code) != NONE;
                case 1:
                    return isWithin(code, '0', '9');
                default:
                    return code == ',' && place < LAST_END || code == ';' && place >= FIRST_END;
            }
        }
    }

    /** A house at some hour, as it is or as it would be; without lodgers it stands for no house. */
    private static final class Night {
        private final int[] kinds;
        private final int[] tired;
        private final boolean[] asleep;
        private final int[] bedHours;
        private int lodgers;
        private int drowse;
        private int hoursPassed;

        Night() {
            kinds = new int[MOST_LODGERS];
            tired = new int[MOST_LODGERS];
            asleep = new boolean[MOST_LODGERS];
            bedHours = new int[MOST_LODGERS];
            lodgers = 0;
            drowse = 0;
            hoursPassed = 0;
        }

        void begin(Page page) {
            lodgers = Math.min(page.lodgers(), MOST_LODGERS);
            drowse = page.drowse();
            hoursPassed = 0;
            for (int lodger = 0; lodger < lodgers; lodger++) {
                kinds[lodger] = page.kindOf(lodger);
                tired[lodger] = page.tiredOf(lodger);
                asleep[lodger] = false;
                bedHours[lodger] = 0;
            }
        }

        void copyFrom(Night other) {
            lodgers = other.lodgers;
            drowse = other.drowse;
            hoursPassed = other.hoursPassed;
            for (int lodger = 0; lodger < lodgers; lodger++) {
                kinds[lodger] = other.kinds[lodger];
                tired[lodger] = other.tired[lodger];
                asleep[lodger] = other.asleep[lodger];
                bedHours[lodger] = other.bedHours[lodger];
            }
        }

        boolean knows(int lodger) {
            return lodger >= 0 && lodger < lodgers;
        }

        int lodgers() {
            return lodgers;
        }

        int drowse() {
            return drowse;
        }

        int hoursPassed() {
            return hoursPassed;
        }

        int kindOf(int lodger) {
            return knows(lodger) ? kinds[lodger] : NONE;
        }

        int tiredOf(int lodger) {
            return knows(lodger) ? tired[lodger] : NONE;
        }

        boolean sleeps(int lodger) {
            return knows(lodger) && asleep[lodger];
        }

        int bedHoursOf(int lodger) {
            return knows(lodger) ? bedHours[lodger] : NONE;
        }

        int sleepers() {
            int sleepers = 0;
            for (int lodger = 0; lodger < lodgers; lodger++) {
                sleepers += asleep[lodger] ? 1 : 0;
            }
            return sleepers;
        }

        int tiredTogether() {
            int together = 0;
            for (int lodger = 0; lodger < lodgers; lodger++) {
                together += tired[lodger];
            }
            return together;
        }

        int whoseBed() {
            int bedOf = NONE;
            int leastTired = TIRED_ASLEEP;
            for (int lodger = 0; lodger < lodgers; lodger++) {
                // Who is awake is always less tired than this.
                if (mayLieIn(lodger) && tired[lodger] < leastTired) {
                    bedOf = lodger;
                    leastTired = tired[lodger];
                }
            }
            return bedOf;
        }

        void giveCoffee(int lodger) {
            if (knows(lodger) && !asleep[lodger]) {
                tired[lodger] = Math.max(0, tired[lodger] - 3);
            }
        }

        void giveLecture(int lodger) {
            if (knows(lodger) && !asleep[lodger]) {
                tired[lodger] += 2;
                settle(lodger);
            }
        }

        void passHour() {
            int bedOf = whoseBed();
            hoursPassed++;
            if (knows(bedOf)) {
                bedHours[bedOf]++;
                tired[bedOf] += drowse;
            }
            for (int lodger = 0; lodger < lodgers; lodger++) {
                if (asleep[lodger]) {
                    tired[lodger] = Math.max(0, tired[lodger] - 3);
                } else {
                    tired[lodger] += tiredByHour(kinds[lodger], tired[lodger], hoursPassed, lodger == bedOf);
                }
                settle(lodger);
            }
        }

        void wakeAs(int lodger, int howTired) {
            if (knows(lodger)) {
                tired[lodger] = howTired;
                asleep[lodger] = false;
            }
        }

        boolean keepsBed(int lodger, int hours) {
            for (int ahead = 1; ahead < Math.min(hours, MOST_CUP_HOURS) && whoseBed() == lodger; ahead++) {
                passHour();
            }
            return whoseBed() == lodger;
        }

        int mostWakefulPair() {
            int pair = NONE;
            int most = NONE;
            for (int one = 0; one < lodgers; one++) {
                for (int other = one + 1; other < lodgers; other++) {
                    int together = mayLieIn(one) && mayLieIn(other) ? hoursTogether(one, other) : NONE;
                    if (together > most) {
                        pair = 10 * one + other;
                        most = together;
                    }
                }
            }
            return pair;
        }

        // Two who lie in the bed for good don't change each other: the first to sleep ends it.
        int hoursTogether(int one, int other) {
            return Math.min(hoursAwakeInBed(one), hoursAwakeInBed(other));
        }

        private int hoursAwakeInBed(int lodger) {
            int kind = kindOf(lodger);
            int howTired = tiredOf(lodger);
            for (int passed = 1; passed <= MOST_SUNDAY_HOURS; passed++) {
                howTired += tiredByHour(kind, howTired, hoursPassed + passed, true);
                if (howTired >= TIRED_ASLEEP) {
                    return passed;
                }
            }
            return MOST_SUNDAY_HOURS;
        }

        // Looks at the number without knows(): this is the deepest call of all, and calls may go but eight deep.
        private boolean mayLieIn(int lodger) {
            return lodger >= 0 && lodger < lodgers && !asleep[lodger] && kinds[lodger] != WATCHMAN;
        }

        private void settle(int lodger) {
            if (!knows(lodger)) {
                return;
            }
            if (tired[lodger] >= TIRED_ASLEEP) {
                tired[lodger] = TIRED_ASLEEP;
                asleep[lodger] = true;
            } else if (tired[lodger] <= TIRED_WAKING) {
                asleep[lodger] = false;
            }
        }
    }

    /** To whom to lecture so that one has the bed ahead of most hours. */
    private static final class LecturePlan {
        // A night for each hour that is planned, so that trying another lecture makes nothing new.
        private final Night[] nights;
        private int hoursInBed;
        private int firstHearer;

        LecturePlan() {
            nights = new Night[MOST_LECTURE_HOURS];
            for (int ahead = 0; ahead < MOST_LECTURE_HOURS; ahead++) {
                nights[ahead] = new Night();
            }
            hoursInBed = 0;
            firstHearer = NONE;
        }

        int hoursInBed() {
            return hoursInBed;
        }

        int firstHearer() {
            return firstHearer;
        }

        void make(Night now, int lodger, int hours) {
            firstHearer = NONE;
            hoursInBed = most(now, lodger, 0, Math.min(hours, MOST_LECTURE_HOURS));
        }

        // A lecture to a sleeper is tried, too: it is like none at all, which was tried first and so is preferred.
        private int most(Night from, int lodger, int ahead, int hours) {
            if (ahead < 0 || ahead >= hours || ahead >= nights.length) {
                return 0;
            }
            Night night = nights[ahead];
            int most = NONE;
            for (int hearer = NONE; hearer < from.lodgers(); hearer++) {
                if (hearer == lodger) {
                    continue;
                }
                night.copyFrom(from);
                night.giveLecture(hearer);
                int inBed = night.whoseBed() == lodger ? 1 : 0;
                night.passHour();
                inBed += most(night, lodger, ahead + 1, hours);
                if (inBed > most) {
                    most = inBed;
                    firstHearer = ahead == 0 ? hearer : firstHearer;
                }
            }
            return most;
        }
    }

    /** Whose the bed was seen to be, and behind how many hours. */
    private static final class Seen {
        private final int[] hours;
        private final int[] lodgers;
        private int size;

        Seen() {
            hours = new int[MOST_SEEN];
            lodgers = new int[MOST_SEEN];
            size = 0;
        }

        int size() {
            return size;
        }

        int put(int behind, int lodger) {
            if (size < MOST_SEEN) {
                hours[size] = behind;
                lodgers[size] = lodger;
                size++;
            }
            return size;
        }

        int empty() {
            int had = size;
            size = 0;
            return had;
        }

        void copyFrom(Seen other) {
            size = other.size;
            for (int place = 0; place < size; place++) {
                hours[place] = other.hours[place];
                lodgers[place] = other.lodgers[place];
            }
        }

        boolean allows(int behind, int bedOf) {
            for (int place = 0; place < size; place++) {
                if (hours[place] == behind && lodgers[place] != bedOf) {
                    return false;
                }
            }
            return true;
        }
    }

    /** How tired one can be, by what is seen, and when to look in so as to know better. */
    private static final class Guess {
        private static final int TIRED_DIGITS = 10, LOOKS = LAST_LOOK + 1;

        private final Night would;
        private final int[][] beds;
        private int lodgers;
        private int bits;

        Guess() {
            would = new Night();
            beds = new int[TIRED_DIGITS][LOOKS];
            lodgers = 0;
            bits = 0;
        }

        int possible() {
            return bits;
        }

        void make(Night now, Seen seen, int lodger) {
            lodgers = now.lodgers();
            bits = 0;
            for (int howTired = 0; howTired < TIRED_DIGITS; howTired++) {
                would.copyFrom(now);
                would.wakeAs(lodger, howTired);
                if (isAsSeen(seen, beds[howTired])) {
                    bits |= 1 << howTired;
                }
            }
        }

        int bestLook() {
            if (bits == 0) {
                return NONE;
            }
            int best = NONE;
            int fewest = TIRED_DIGITS + 1;
            for (int look = 0; look < LOOKS; look++) {
                int worst = leftAtWorst(look);
                if (worst < fewest) {
                    best = look;
                    fewest = worst;
                }
            }
            return best;
        }

        // Writes down all beds, even behind what isn't seen: a look goes by them.
        private boolean isAsSeen(Seen seen, int[] bedsBehind) {
            boolean isSo = true;
            for (int look = 0; look < bedsBehind.length; look++) {
                if (look > 0) {
                    would.passHour();
                }
                bedsBehind[look] = would.whoseBed();
                isSo = isSo && seen.allows(look, bedsBehind[look]);
            }
            return isSo;
        }

        private int leftAtWorst(int look) {
            int worst = 0;
            for (int bedOf = NONE; bedOf < lodgers; bedOf++) {
                worst = Math.max(worst, leftBy(look, bedOf));
            }
            return worst;
        }

        private int leftBy(int look, int bedOf) {
            int left = 0;
            for (int howTired = 0; howTired < TIRED_DIGITS; howTired++) {
                boolean isPossible = (bits >> howTired & 1) == 1;
                left += isPossible && bedBehind(look, howTired) == bedOf ? 1 : 0;
            }
            return left;
        }

        private int bedBehind(int look, int howTired) {
            boolean isWritten = isWithin(look, 0, LAST_LOOK) && isWithin(howTired, 0, TIRED_DIGITS - 1);
            return isWritten ? beds[howTired][look] : NONE;
        }
    }
}
