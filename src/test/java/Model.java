import java.util.ArrayList;
import java.util.List;
import java.util.TreeMap;
import java.util.regex.Matcher;
import java.util.regex.Pattern;

/** A second telling of the document, slow and of other means than the class: what WakefulBed has to answer. */
final class Model {
    private static final int NONE = -1, UNKNOWN = -101, OUTSIDE = -102, STATE = -103, FULL = -104;
    private static final Pattern HOUSE = Pattern.compile("[lwvmp][0-9](,[lwvmp][0-9]){1,4};[1-4]");

    private record Man(char kind, int tired, boolean asleep, int bedHours) {
        boolean eligible() {
            return !asleep && kind != 'w';
        }

        Man tired(int howTired) {
            return new Man(kind, howTired, asleep, bedHours);
        }

        Man settled() {
            if (tired >= 10) {
                return new Man(kind, 10, true, bedHours);
            }
            return new Man(kind, tired, asleep && tired > 2, bedHours);
        }

        Man withCoffee() {
            return asleep ? this : tired(tired < 3 ? 0 : tired - 3);
        }

        Man withLecture() {
            return asleep ? this : tired(tired + 2).settled();
        }

        int more(int hour, boolean inBed) {
            return switch (kind) {
                case 'l', 'w' -> 1;
                case 'v' -> 1 - hour % 2;
                case 'm' -> tired < 6 ? 1 : 0;
                default -> 1 - hour % 2 + (inBed ? 1 : 0);
            };
        }
    }

    private record House(List<Man> men, int drowse, int hour) {
        int bed() {
            int best = NONE;
            for (int man = men.size() - 1; man >= 0; man--) {
                if (men.get(man).eligible() && (best == NONE || men.get(man).tired() <= men.get(best).tired())) {
                    best = man;
                }
            }
            return best;
        }

        House with(int man, Man other) {
            List<Man> changed = new ArrayList<>(men);
            changed.set(man, other);
            return new House(changed, drowse, hour);
        }

        House coffee(int man) {
            return with(man, men.get(man).withCoffee());
        }

        House lecture(int man) {
            return man == NONE ? this : with(man, men.get(man).withLecture());
        }

        House next() {
            int bed = bed();
            List<Man> then = new ArrayList<>();
            for (int place = 0; place < men.size(); place++) {
                Man man = men.get(place);
                if (place == bed) {
                    man = new Man(man.kind(), man.tired() + drowse, man.asleep(), man.bedHours() + 1);
                }
                int change = man.asleep() ? -Math.min(3, man.tired()) : man.more(hour + 1, place == bed);
                then.add(man.tired(man.tired() + change).settled());
            }
            return new House(then, drowse, hour + 1);
        }

        House later(int hours) {
            return hours == 0 ? this : next().later(hours - 1);
        }

        int sleepers() {
            return (int) men.stream().filter(Man::asleep).count();
        }
    }

    private record Sight(int hours, int lodger) {
    }

    private StringBuilder page = new StringBuilder();
    private House house = new House(List.of(), 0, 0);
    private List<Sight> seen = new ArrayList<>();
    private House keptHouse = null;
    private List<Sight> keptSeen = null;
    private int housesRead = 0;
    private int lecturesDone = 0;

    private int lodgers() {
        return house.men().size();
    }

    private boolean unknown(int lodger) {
        return lodger < 0 || lodger >= lodgers();
    }

    private Man man(int lodger) {
        return house.men().get(lodger);
    }

    int letter(int code) {
        if (code < 32 || code > 126) {
            return OUTSIDE;
        }
        if (page.length() == 18) {
            return FULL;
        }
        page.append((char) code);
        return page.length();
    }

    int blank() {
        int had = page.length();
        page = new StringBuilder();
        return had;
    }

    int fault() {
        int good = 0;
        while (good < page.length()) {
            Matcher matcher = HOUSE.matcher(page.substring(0, good + 1));
            if (!matcher.matches() && !matcher.hitEnd()) {
                break;
            }
            good++;
        }
        return good;
    }

    int house() {
        if (!HOUSE.matcher(page).matches()) {
            return STATE;
        }
        String[] parts = page.toString().split(";");
        List<Man> men = new ArrayList<>();
        for (String part : parts[0].split(",")) {
            men.add(new Man(part.charAt(0), Integer.parseInt(part.substring(1)), false, 0));
        }
        house = new House(men, Integer.parseInt(parts[1]), 0);
        page = new StringBuilder();
        seen = new ArrayList<>();
        keptHouse = null;
        housesRead++;
        return men.size();
    }

    int about(int lodger, int what) {
        if (unknown(lodger)) {
            return UNKNOWN;
        }
        return switch (what) {
            case 0 -> "lwvmp".indexOf(man(lodger).kind());
            case 1 -> man(lodger).tired();
            case 2 -> man(lodger).asleep() ? 1 : 0;
            case 3 -> house.bed() == lodger ? 1 : 0;
            case 4 -> man(lodger).bedHours();
            case 5 -> possible(lodger).stream().mapToInt(howTired -> 1 << howTired).sum();
            case 6 -> look(lodger);
            default -> OUTSIDE;
        };
    }

    private int bedBehind(int lodger, int howTired, int hours) {
        Man man = man(lodger);
        return house.with(lodger, new Man(man.kind(), howTired, false, 0)).later(hours).bed();
    }

    private List<Integer> possible(int lodger) {
        List<Integer> possible = new ArrayList<>();
        for (int howTired = 0; howTired <= 9; howTired++) {
            int t = howTired;
            if (seen.stream().allMatch(sight -> bedBehind(lodger, t, sight.hours()) == sight.lodger())) {
                possible.add(t);
            }
        }
        return possible;
    }

    private int look(int lodger) {
        List<Integer> possible = possible(lodger);
        TreeMap<Integer, Integer> firstByWorst = new TreeMap<>();
        for (int hours = 0; hours <= 12; hours++) {
            TreeMap<Integer, Integer> left = new TreeMap<>();
            for (int howTired : possible) {
                left.merge(bedBehind(lodger, howTired, hours), 1, Integer::sum);
            }
            int worst = left.values().stream().mapToInt(Integer::intValue).max().orElse(0);
            firstByWorst.putIfAbsent(worst, hours);
        }
        return possible.isEmpty() ? NONE : firstByWorst.firstEntry().getValue();
    }

    int as(int lodger, int kind) {
        if (unknown(lodger)) {
            return UNKNOWN;
        }
        if (kind < 0 || kind > 4) {
            return OUTSIDE;
        }
        String are = List.of("lvwmp", "w", "vp", "m", "p").get(kind);
        return are.indexOf(man(lodger).kind()) >= 0 ? lodger : NONE;
    }

    int bed() {
        return lodgers() == 0 ? STATE : house.bed();
    }

    int coffee(int lodger) {
        if (unknown(lodger)) {
            return UNKNOWN;
        }
        if (man(lodger).asleep()) {
            return STATE;
        }
        house = house.coffee(lodger);
        return man(lodger).tired();
    }

    int lecture(int lodger) {
        if (unknown(lodger)) {
            return UNKNOWN;
        }
        if (man(lodger).asleep()) {
            return STATE;
        }
        house = house.lecture(lodger);
        return man(lodger).tired();
    }

    int hour() {
        if (lodgers() == 0) {
            return STATE;
        }
        house = house.next();
        return house.sleepers();
    }

    int cups(int lodger, int hours) {
        if (unknown(lodger)) {
            return UNKNOWN;
        }
        if (hours < 1 || hours > 6) {
            return OUTSIDE;
        }
        if (man(lodger).asleep()) {
            return STATE;
        }
        House would = house;
        for (int cups = 0; cups <= 4; cups++) {
            boolean keeps = true;
            for (int ahead = 0; ahead < hours; ahead++) {
                keeps &= would.later(ahead).bed() == lodger;
            }
            if (keeps) {
                return cups;
            }
            would = would.coffee(lodger);
        }
        return NONE;
    }

    int lectures(int lodger, int hours, int what) {
        if (unknown(lodger)) {
            return UNKNOWN;
        }
        if (hours < 1 || hours > 3 || what < 0 || what > 1) {
            return OUTSIDE;
        }
        if (lecturesDone == 40) {
            return STATE;
        }
        lecturesDone++;
        int most = -1;
        int first = NONE;
        int choices = lodgers() + 1;
        int plans = (int) Math.pow(choices, hours);
        for (int plan = 0; plan < plans; plan++) {
            int[] whom = new int[hours];
            boolean himself = false;
            int rest = plan;
            for (int ahead = hours - 1; ahead >= 0; ahead--) {
                whom[ahead] = rest % choices - 1;
                himself |= whom[ahead] == lodger;
                rest /= choices;
            }
            if (himself) {
                continue;
            }
            int his = 0;
            House would = house;
            for (int hearer : whom) {
                would = would.lecture(hearer);
                his += would.bed() == lodger ? 1 : 0;
                would = would.next();
            }
            if (his > most) {
                most = his;
                first = whom[0];
            }
        }
        return what == 0 ? most : first;
    }

    int sunday(int what) {
        if (what < 0 || what > 1) {
            return OUTSIDE;
        }
        if (lodgers() == 0) {
            return STATE;
        }
        int pair = NONE;
        int most = NONE;
        for (int code = 0; code < 100; code++) {
            int one = code / 10;
            int other = code % 10;
            if (one >= other || other >= lodgers() || !man(one).eligible() || !man(other).eligible()) {
                continue;
            }
            Man a = man(one);
            Man b = man(other);
            int hours = 0;
            while (hours < 60 && a.tired() < 10 && b.tired() < 10) {
                hours++;
                a = a.tired(a.tired() + a.more(house.hour() + hours, true));
                b = b.tired(b.tired() + b.more(house.hour() + hours, true));
            }
            if (hours > most) {
                most = hours;
                pair = code;
            }
        }
        return what == 0 ? pair : most;
    }

    int see(int hours, int lodger) {
        if (hours < 0 || hours > 12) {
            return OUTSIDE;
        }
        if (lodger != NONE && unknown(lodger)) {
            return UNKNOWN;
        }
        if (seen.size() == 6) {
            return FULL;
        }
        seen.add(new Sight(hours, lodger));
        return seen.size();
    }

    int forget() {
        int had = seen.size();
        seen.clear();
        return had;
    }

    int nights(int hours, int seed, int what) {
        if (hours < 1 || hours > 60 || seed < 0 || what < 0 || what > 2) {
            return OUTSIDE;
        }
        if (lodgers() == 0) {
            return STATE;
        }
        long drawn = seed;
        int his = 0;
        House would = house;
        for (int passed = 0; passed < hours; passed++) {
            drawn = (1103515245L * drawn + 12345L) % (1L << 31);
            would = would.coffee((int) (drawn / 65536 % lodgers()));
            drawn = (1103515245L * drawn + 12345L) % (1L << 31);
            would = would.lecture((int) (drawn / 65536 % lodgers()));
            his += would.bed() == 0 ? 1 : 0;
            would = would.next();
        }
        return what == 0 ? his : what == 1 ? would.sleepers() : (int) drawn;
    }

    int image() {
        if (lodgers() == 0) {
            return STATE;
        }
        keptHouse = house;
        keptSeen = new ArrayList<>(seen);
        return house.hour();
    }

    int restore() {
        if (keptHouse == null) {
            return STATE;
        }
        house = keptHouse;
        seen = new ArrayList<>(keptSeen);
        return house.hour();
    }

    int count(int what) {
        return switch (what) {
            case 0 -> lodgers();
            case 1 -> house.drowse();
            case 2 -> house.sleepers();
            case 3 -> house.hour();
            case 4 -> house.men().stream().mapToInt(Man::tired).sum();
            case 5 -> seen.size();
            case 6 -> page.length();
            case 7 -> housesRead;
            case 8 -> lecturesDone;
            default -> OUTSIDE;
        };
    }

    long digest() {
        List<Integer> numbers = new ArrayList<>();
        for (int lodger = 0; lodger < lodgers(); lodger++) {
            for (int what = 0; what <= 6; what++) {
                numbers.add(about(lodger, what));
            }
            numbers.add(man(lodger).asleep() ? 0 : cups(lodger, 3));
        }
        if (lodgers() > 0) {
            numbers.addAll(List.of(bed(), sunday(0), sunday(1)));
        }
        page.chars().forEach(numbers::add);
        for (int what = 0; what <= 8; what++) {
            numbers.add(count(what));
        }
        long h = 953;
        for (int number : numbers) {
            h = 31 * h + number;
        }
        return h;
    }
}
