import java.math.BigInteger;
import java.util.ArrayList;
import java.util.BitSet;
import java.util.HashMap;
import java.util.HashSet;
import java.util.List;
import java.util.Map;
import java.util.Set;
import java.util.TreeMap;
import java.util.regex.Matcher;
import java.util.regex.Pattern;

/** The document once more, slow and with the Java library: what PlateDay's answers are compared with. */
final class Model {
    private static final int NONE = -1;
    private static final int DAYS = 3600;
    private static final int MINUTES = 720;
    private static final Set<String> RESERVED = Set.of(
        "thing", "from", "give", "till", "tree", "leaf", "bare", "post", "clock", "slow", "fast", "sun",
        "east", "west", "north", "south", "stands", "lacks", "shadow", "week", "year", "before", "left");
    private static final List<String> SIGN_WORDS = List.of(
        "stands", "lacks", "leaf", "bare", "shadow", "clock", "week", "year", "before", "left");

    /** A text stops being one at a place. */
    private static final class Fault extends RuntimeException {
        private static final long serialVersionUID = 1L;
        final int place;

        Fault(int place) {
            this.place = place;
        }
    }

    private record Token(String text, int place) {
    }

    private record Thing(int from, int give, int till, int tillGive) {
    }

    private record Tree(int leaf, int bare) {
    }

    private record Post(int x, int y, int high) {
    }

    private record Clock(int slow, int fast) {
    }

    private record Fraction(BigInteger upper, BigInteger lower) {
        static Fraction of(long upper, long lower) {
            return new Fraction(BigInteger.valueOf(upper), BigInteger.valueOf(lower)).reduced();
        }

        Fraction reduced() {
            BigInteger shared = upper.gcd(lower);
            BigInteger by = lower.signum() < 0 ? shared.negate() : shared;
            return new Fraction(upper.divide(by), lower.divide(by));
        }

        Fraction plus(Fraction o) {
            return new Fraction(upper.multiply(o.lower).add(o.upper.multiply(lower)), lower.multiply(o.lower)).reduced();
        }

        Fraction times(Fraction o) {
            return new Fraction(upper.multiply(o.upper), lower.multiply(o.lower)).reduced();
        }

        /** Whether it is at most so far from a whole number. */
        boolean within(long told, long give) {
            BigInteger off = upper.subtract(lower.multiply(BigInteger.valueOf(told))).abs();
            return off.compareTo(lower.multiply(BigInteger.valueOf(give))) <= 0;
        }
    }

    private static final class Town {
        final List<String> thingNames = new ArrayList<>();
        final List<String> treeNames = new ArrayList<>();
        final List<String> postNames = new ArrayList<>();
        final List<String> clockNames = new ArrayList<>();
        final List<Thing> things = new ArrayList<>();
        final List<Tree> trees = new ArrayList<>();
        final List<Post> posts = new ArrayList<>();
        final List<Clock> clocks = new ArrayList<>();
        final List<TreeMap<Integer, int[]>> suns = new ArrayList<>();
        int sunCount;
        int statements;

        Town() {
            for (int i = 0; i < 12; i++) {
                suns.add(new TreeMap<>());
            }
        }
    }

    private record Sign(int what, int a, int b, int c, int give) {
    }

    private final StringBuilder tape = new StringBuilder();
    private Town town = new Town();
    private int townsTaken;
    private int fault = NONE;
    private List<List<Sign>> pictures = new ArrayList<>();
    private int[] weights = ones();
    private final List<List<List<Sign>>> imagePictures = new ArrayList<>();
    private final List<int[]> imageWeights = new ArrayList<>();
    private final Map<List<Sign>, BitSet> allOf = new HashMap<>();
    private final Map<List<Sign>, int[][]> masksOf = new HashMap<>();

    private List<Token> tokens;
    private int next;
    private int end;

    private static int[] ones() {
        int[] ones = new int[12];
        java.util.Arrays.fill(ones, 1);
        return ones;
    }

    // ---- texts

    private void begin(String text) {
        tokens = new ArrayList<>();
        Matcher m = Pattern.compile("[a-z]+|[0-9]+|[^ \\n]", Pattern.DOTALL).matcher(text);
        while (m.find()) {
            tokens.add(new Token(m.group(), m.start()));
        }
        next = 0;
        end = text.length();
    }

    private boolean over() {
        return next >= tokens.size();
    }

    private int place() {
        return over() ? end : tokens.get(next).place;
    }

    private String peek() {
        return over() ? "" : tokens.get(next).text;
    }

    private boolean may(String word) {
        if (peek().equals(word)) {
            next++;
            return true;
        }
        return false;
    }

    private void must(String word) {
        if (!may(word)) {
            throw new Fault(place());
        }
    }

    private int number(int low, int high) {
        if (!peek().matches("[0-9]{1,4}")) {
            throw new Fault(place());
        }
        int number = Integer.parseInt(peek());
        if (number < low || number > high) {
            throw new Fault(place());
        }
        next++;
        return number;
    }

    private void newName(Town t, List<String> names, int most) {
        String name = peek();
        boolean taken = t.thingNames.contains(name) || t.treeNames.contains(name)
            || t.postNames.contains(name) || t.clockNames.contains(name);
        if (!name.matches("[a-z]{1,8}") || RESERVED.contains(name) || taken || names.size() == most) {
            throw new Fault(place());
        }
        names.add(name);
        next++;
    }

    private int known(List<String> names) {
        int i = names.indexOf(peek());
        if (i < 0) {
            throw new Fault(place());
        }
        next++;
        return i;
    }

    private Town parseTown(String text) {
        Town t = new Town();
        begin(text);
        while (!over()) {
            if (t.statements == 60) {
                throw new Fault(place());
            }
            String word = peek();
            if (!List.of("thing", "tree", "post", "clock", "sun").contains(word)) {
                throw new Fault(place());
            }
            next++;
            switch (word) {
                case "thing" -> parseThing(t);
                case "tree" -> {
                    newName(t, t.treeNames, 6);
                    must("leaf");
                    int leaf = number(0, 359);
                    must("bare");
                    int at = place();
                    int bare = number(0, 359);
                    if (leaf == bare) {
                        throw new Fault(at);
                    }
                    t.trees.add(new Tree(leaf, bare));
                }
                case "post" -> {
                    newName(t, t.postNames, 10);
                    t.posts.add(new Post(number(0, 31), number(0, 31), number(1, 20)));
                }
                case "clock" -> {
                    newName(t, t.clockNames, 4);
                    must("slow");
                    int slow = number(0, 99);
                    must("fast");
                    t.clocks.add(new Clock(slow, number(0, 99)));
                }
                default -> parseSun(t);
            }
            must(";");
            t.statements++;
        }
        return t;
    }

    private void parseThing(Town t) {
        newName(t, t.thingNames, 12);
        must("from");
        int from = number(0, 3599);
        int give = may("give") ? number(0, 99) : 0;
        int till = NONE;
        int tillGive = 0;
        if (may("till")) {
            till = number(from, 3599);
            tillGive = may("give") ? number(0, 99) : 0;
        }
        t.things.add(new Thing(from, give, till, tillGive));
    }

    private void parseSun(Town t) {
        if (t.sunCount == 40) {
            throw new Fault(place());
        }
        TreeMap<Integer, int[]> rows = t.suns.get(number(0, 11));
        int minute = number(rows.isEmpty() ? 0 : rows.lastKey() + 1, 719);
        int east = may("east") ? 1 : may("west") ? -1 : 0;
        if (east == 0) {
            throw new Fault(place());
        }
        east *= number(0, 99);
        int north = may("north") ? 1 : may("south") ? -1 : 0;
        if (north == 0) {
            throw new Fault(place());
        }
        north *= number(0, 99);
        rows.put(minute, new int[] {east, north});
        t.sunCount++;
    }

    private List<Sign> parseSigns(String text, List<Sign> had) {
        List<Sign> signs = new ArrayList<>(had);
        begin(text);
        do {
            if (signs.size() == 12 || !SIGN_WORDS.contains(peek())) {
                throw new Fault(place());
            }
            int what = SIGN_WORDS.indexOf(peek());
            next++;
            signs.add(parseSign(what));
            must(";");
        } while (!over());
        return signs;
    }

    private Sign parseSign(int what) {
        switch (what) {
            case 0:
            case 1:
                return new Sign(what, known(town.thingNames), NONE, NONE, NONE);
            case 2:
            case 3:
                return new Sign(what, known(town.treeNames), NONE, NONE, NONE);
            case 4:
                return new Sign(what, known(town.postNames), number(0, 31), number(0, 31), may("give") ? number(0, 99) : 0);
            case 5:
                return new Sign(what, known(town.clockNames), number(0, 719), NONE, NONE);
            case 6:
                return new Sign(what, number(0, 6), NONE, NONE, NONE);
            case 7:
                return new Sign(what, number(0, 9), NONE, NONE, NONE);
            default:
                int one = known(town.postNames);
                int at = place();
                int other = known(town.postNames);
                if (one == other) {
                    throw new Fault(at);
                }
                return new Sign(what, one, other, NONE, NONE);
        }
    }

    private String cut(int n) {
        String text = tape.substring(0, n);
        tape.setLength(0);
        return text;
    }

    int feed(int a, int b, int c, int d, int e) {
        if (tape.length() + 20 > 1200) {
            return NONE;
        }
        for (int v : new int[] {a, b, c, d, e}) {
            for (byte one : java.nio.ByteBuffer.allocate(4).putInt(v).array()) {
                tape.append((char) (one & 255));
            }
        }
        return tape.length();
    }

    int town(int n) {
        if (n < 0 || n > tape.length()) {
            return -2;
        }
        try {
            town = parseTown(cut(n));
        } catch (Fault f) {
            fault = f.place;
            return NONE;
        }
        fault = NONE;
        townsTaken++;
        pictures.clear();
        imagePictures.clear();
        imageWeights.clear();
        allOf.clear();
        masksOf.clear();
        weights = ones();
        return town.statements;
    }

    int picture(int n) {
        if (n < 0 || n > tape.length()) {
            return -2;
        }
        if (pictures.size() == 8) {
            return -3;
        }
        try {
            pictures.add(parseSigns(cut(n), List.of()));
        } catch (Fault f) {
            fault = f.place;
            return NONE;
        }
        fault = NONE;
        return pictures.size() - 1;
    }

    int more(int picture, int n) {
        if (!isPicture(picture) || n < 0 || n > tape.length()) {
            return -2;
        }
        try {
            pictures.set(picture, parseSigns(cut(n), pictures.get(picture)));
        } catch (Fault f) {
            fault = f.place;
            return NONE;
        }
        fault = NONE;
        return pictures.get(picture).size();
    }

    int fault() {
        return fault;
    }

    private boolean isPicture(int i) {
        return i >= 0 && i < pictures.size();
    }

    // ---- what was told

    int told(int what) {
        int[] counts = {town.things.size(), town.trees.size(), town.posts.size(), town.clocks.size(), town.sunCount, town.statements};
        if (what >= 0 && what < 6) {
            return counts[what];
        }
        for (int i = 0; i < town.things.size(); i++) {
            Thing t = town.things.get(i);
            int[] of = {t.from, t.give, t.till, t.tillGive};
            for (int j = 0; j < 4; j++) {
                if (what == 100 + j + 4 * i) {
                    return of[j];
                }
            }
        }
        for (int i = 0; i < town.posts.size(); i++) {
            Post p = town.posts.get(i);
            int[] of = {p.x, p.y, p.high};
            for (int j = 0; j < 3; j++) {
                if (what == 200 + j + 3 * i) {
                    return of[j];
                }
            }
        }
        return NONE;
    }

    int sign(int picture, int k, int what) {
        if (!isPicture(picture) || k < 0 || k >= pictures.get(picture).size()) {
            return NONE;
        }
        Sign s = pictures.get(picture).get(k);
        switch (what) {
            case 0:
                return s.what;
            case 1:
                return s.a;
            case 2:
                return s.b;
            case 3:
                return s.c;
            case 4:
                return s.give;
            default:
                return NONE;
        }
    }

    // ---- what a sign lets

    private boolean lets(Sign s, int day, int minute, int later, int asked, int askedFrom) {
        int year = day / 360;
        int inYear = day - 360 * year;
        switch (s.what) {
            case 0:
            case 1:
                Thing t = town.things.get(s.a);
                int from = s.a == asked ? askedFrom : t.from;
                int give = s.a == asked ? 0 : t.give;
                boolean ends = t.till != NONE;
                if (s.what == 0) {
                    return day >= from - give && (!ends || day <= t.till + later + t.tillGive);
                }
                return day < from + give || ends && day > t.till + later - t.tillGive;
            case 2:
            case 3:
                Tree tree = town.trees.get(s.a);
                // So many days behind "leaf", against how many a leaf has.
                boolean inLeaf = (inYear - tree.leaf + 360) % 360 < (tree.bare - tree.leaf + 360) % 360;
                return inLeaf == (s.what == 2);
            case 4:
                if (town.suns.get(inYear / 30).isEmpty()) {
                    return true;
                }
                Fraction[] at = shadowOf(town.posts.get(s.a), inYear / 30, minute);
                return at != null && at[0].within(s.b, s.give) && at[1].within(s.c, s.give);
            case 5:
                Clock c = town.clocks.get(s.a);
                return minute >= s.b - c.fast && minute <= s.b + c.slow;
            case 6:
                return day % 7 == s.a;
            case 7:
                return year == s.a;
            default:
                return true;
        }
    }

    private Fraction[] shadowOf(Post post, int month, int minute) {
        TreeMap<Integer, int[]> rows = town.suns.get(month);
        Integer low = rows.floorKey(minute);
        Integer high = rows.ceilingKey(minute);
        if (low == null || high == null) {
            return null;
        }
        Fraction share = low.equals(high) ? Fraction.of(0, 1) : Fraction.of(minute - low, high - low);
        Fraction[] at = new Fraction[2];
        int[] foot = {post.x, post.y};
        for (int i = 0; i < 2; i++) {
            int start = rows.get(low)[i];
            Fraction falls = Fraction.of(start, 1).plus(Fraction.of(rows.get(high)[i] - start, 1).times(share));
            at[i] = Fraction.of(foot[i], 1).plus(falls.times(Fraction.of(post.high, 10)));
        }
        return at;
    }

    private static boolean ofMinutes(Sign s) {
        return s.what == 4 || s.what == 5;
    }

    /** Which signs let a day, as far as days tell. */
    private int dayMask(List<Sign> signs, int day, int later, int asked, int askedFrom) {
        int mask = 0;
        for (int k = 0; k < signs.size(); k++) {
            if (ofMinutes(signs.get(k)) || lets(signs.get(k), day, 0, later, asked, askedFrom)) {
                mask |= 1 << k;
            }
        }
        return mask;
    }

    private int[][] minuteMasks(List<Sign> signs) {
        int[][] masks = new int[12][MINUTES];
        for (int month = 0; month < 12; month++) {
            for (int minute = 0; minute < MINUTES; minute++) {
                for (int k = 0; k < signs.size(); k++) {
                    if (!ofMinutes(signs.get(k)) || lets(signs.get(k), month * 30, minute, 0, NONE, 0)) {
                        masks[month][minute] |= 1 << k;
                    }
                }
            }
        }
        return masks;
    }

    private int[][] masks(List<Sign> signs) {
        return masksOf.computeIfAbsent(signs, this::minuteMasks);
    }

    private BitSet all(List<Sign> signs) {
        BitSet known = allOf.get(signs);
        if (known != null) {
            return known;
        }
        int[][] masks = masks(signs);
        BitSet all = new BitSet(DAYS * MINUTES);
        int every = (1 << signs.size()) - 1;
        for (int day = 0; day < DAYS; day++) {
            int mask = dayMask(signs, day, 0, NONE, 0);
            for (int minute = 0; mask == every && minute < MINUTES; minute++) {
                if (masks[day % 360 / 30][minute] == every) {
                    all.set(day * MINUTES + minute);
                }
            }
        }
        allOf.put(signs, all);
        return all;
    }

    private long momentsIf(List<Sign> signs, int later, int asked, int askedFrom) {
        int every = (1 << signs.size()) - 1;
        int[][] masks = masks(signs);
        long[] minutes = new long[12];
        for (int month = 0; month < 12; month++) {
            for (int mask : masks[month]) {
                minutes[month] += mask == every ? 1 : 0;
            }
        }
        long sum = 0;
        for (int day = 0; day < DAYS; day++) {
            if (minutes[day % 360 / 30] > 0 && dayMask(signs, day, later, asked, askedFrom) == every) {
                sum += minutes[day % 360 / 30];
            }
        }
        return sum;
    }

    private static boolean isMoment(int day, int minute) {
        return day >= 0 && day < DAYS && minute >= 0 && minute < MINUTES;
    }

    int lets(int picture, int k, int day, int minute) {
        if (!isPicture(picture) || k < 0 || k >= pictures.get(picture).size() || !isMoment(day, minute)) {
            return NONE;
        }
        return lets(pictures.get(picture).get(k), day, minute, 0, NONE, 0) ? 1 : 0;
    }

    int shadow(int post, int month, int minute, int what) {
        if (post < 0 || post >= town.posts.size() || month < 0 || month > 11 || what < 0 || what > 3) {
            return -1000000;
        }
        Fraction[] at = shadowOf(town.posts.get(post), month, minute);
        if (at == null) {
            return -1000000;
        }
        return (what % 2 == 0 ? at[what / 2].upper : at[what / 2].lower).intValueExact();
    }

    int all(int picture) {
        return isPicture(picture) ? all(pictures.get(picture)).cardinality() : NONE;
    }

    private List<Integer> daysOf(List<Sign> signs) {
        BitSet all = all(signs);
        List<Integer> days = new ArrayList<>();
        for (int i = all.nextSetBit(0); i >= 0; i = all.nextSetBit((i / MINUTES + 1) * MINUTES)) {
            days.add(i / MINUTES);
        }
        return days;
    }

    int days(int picture, int k) {
        if (!isPicture(picture) || k < NONE) {
            return NONE;
        }
        List<Integer> days = daysOf(pictures.get(picture));
        return k == NONE ? days.size() : k < days.size() ? days.get(k) : NONE;
    }

    int runs(int picture, int k, int what) {
        if (!isPicture(picture) || k < NONE || what < 0 || what > 2) {
            return NONE;
        }
        BitSet all = all(pictures.get(picture));
        int found = 0;
        for (int i = all.nextSetBit(0); i >= 0;) {
            int day = i / MINUTES;
            int stop = Math.min(all.nextClearBit(i), (day + 1) * MINUTES);
            if (found == k) {
                return new int[] {day, i - day * MINUTES, stop - 1 - day * MINUTES}[what];
            }
            found++;
            i = all.nextSetBit(stop);
        }
        return k == NONE && what == 0 ? found : NONE;
    }

    int judge(int picture, int day, int minute) {
        if (!isPicture(picture) || !isMoment(day, minute)) {
            return -2;
        }
        for (Sign s : pictures.get(picture)) {
            if (!lets(s, day, minute, 0, NONE, 0)) {
                return pictures.get(picture).indexOf(s);
            }
        }
        return NONE;
    }

    // ---- sets of signs

    /** The sets of signs that let some moment each, and no further sign does. */
    private Set<Integer> momentMasks(List<Sign> signs) {
        int[][] masks = masks(signs);
        Set<Integer> found = new HashSet<>();
        for (int month = 0; month < 12; month++) {
            Set<Integer> ofMinutes = new HashSet<>();
            for (int mask : masks[month]) {
                ofMinutes.add(mask);
            }
            Set<Integer> ofDays = new HashSet<>();
            for (int day = 0; day < DAYS; day++) {
                if (day % 360 / 30 == month) {
                    ofDays.add(dayMask(signs, day, 0, NONE, 0));
                }
            }
            for (int a : ofMinutes) {
                for (int b : ofDays) {
                    found.add(a & b);
                }
            }
        }
        return found;
    }

    private static boolean together(Set<Integer> moments, int set) {
        return moments.stream().anyMatch(mask -> (mask & set) == set);
    }

    int quarrel(int picture) {
        if (!isPicture(picture)) {
            return NONE;
        }
        List<Sign> signs = pictures.get(picture);
        Set<Integer> moments = momentMasks(signs);
        if (together(moments, (1 << signs.size()) - 1)) {
            return 0;
        }
        for (int size = 1; size <= signs.size(); size++) {
            for (int set = 1; set < 1 << signs.size(); set++) {
                if (Integer.bitCount(set) == size && !together(moments, set)) {
                    return set;
                }
            }
        }
        throw new IllegalStateException();
    }

    int doubt(int picture, int what) {
        if (!isPicture(picture) || what < 0 || what > 1) {
            return NONE;
        }
        List<Sign> signs = pictures.get(picture);
        Set<Integer> moments = momentMasks(signs);
        int every = (1 << signs.size()) - 1;
        for (int size = 0; size <= signs.size(); size++) {
            int first = NONE;
            int rivals = 0;
            for (int set = 0; set <= every; set++) {
                if (Integer.bitCount(set) == size && together(moments, every - set)) {
                    first = first == NONE ? set : first;
                    rivals++;
                }
            }
            if (rivals > 0) {
                return what == 0 ? first : rivals;
            }
        }
        throw new IllegalStateException();
    }

    int stood(int picture, boolean over, int k) {
        if (!isPicture(picture) || k < NONE) {
            return NONE;
        }
        List<Integer> points = new ArrayList<>();
        for (int y = 0; y < 32; y++) {
            for (int x = 0; x < 32; x++) {
                boolean all = true;
                for (Sign s : pictures.get(picture)) {
                    all &= s.what < 8 || seen(s, over, x, y);
                }
                if (all) {
                    points.add(32 * y + x);
                }
            }
        }
        return k == NONE ? points.size() : k < points.size() ? points.get(k) : NONE;
    }

    private boolean seen(Sign s, boolean over, int x, int y) {
        Post a = town.posts.get(s.a);
        Post b = town.posts.get(s.b);
        if (a.x == x && a.y == y || b.x == x && b.y == y) {
            return false;
        }
        if (s.what == 9) {
            int turn = (a.x - x) * (b.y - y) - (a.y - y) * (b.x - x);
            return over ? turn > 0 : turn < 0;
        }
        // The first is nearer in one line on the same side: it lies inside the way to the second.
        boolean inside = Math.min(x, b.x) <= a.x && a.x <= Math.max(x, b.x) && Math.min(y, b.y) <= a.y && a.y <= Math.max(y, b.y);
        boolean line = (b.y - y) * (a.x - x) == (a.y - y) * (b.x - x);
        return inside && line && !(a.x == b.x && a.y == b.y);
    }

    int late(int picture, int n) {
        if (!isPicture(picture) || n < NONE || n > 99) {
            return NONE;
        }
        if (n != NONE) {
            return (int) momentsIf(pictures.get(picture), n, NONE, 0);
        }
        for (int later = 0; later < 100; later++) {
            if (momentsIf(pictures.get(picture), later, NONE, 0) > 0) {
                return later;
            }
        }
        return NONE;
    }

    // ---- several pictures

    long couples(int one, int other, int a, int b, int what) {
        if (!isPicture(one) || !isPicture(other) || a < -719 || a > 719 || b < -719 || b > 719 || a > b || what < 0 || what > 2) {
            return NONE;
        }
        BitSet p = all(pictures.get(one));
        BitSet q = all(pictures.get(other));
        Map<List<BitSet>, Long> pairsOf = new HashMap<>();
        long pairs = 0;
        long days = 0;
        long first = NONE;
        for (int day = 0; day < DAYS; day++) {
            BitSet left = p.get(day * MINUTES, (day + 1) * MINUTES);
            BitSet right = q.get(day * MINUTES, (day + 1) * MINUTES);
            if (left.isEmpty() || right.isEmpty()) {
                continue;
            }
            long here = pairsOf.computeIfAbsent(List.of(left, right), two -> pairs(two.get(0), two.get(1), a, b));
            pairs += here;
            days += here > 0 ? 1 : 0;
            first = here > 0 && first == NONE ? day : first;
        }
        return what == 0 ? pairs : what == 1 ? days : first;
    }

    private static long pairs(BitSet left, BitSet right, int a, int b) {
        long sum = 0;
        for (int i = left.nextSetBit(0); i >= 0; i = left.nextSetBit(i + 1)) {
            for (int j = right.nextSetBit(0); j >= 0; j = right.nextSetBit(j + 1)) {
                sum += j - i >= a && j - i <= b ? 1 : 0;
            }
        }
        return sum;
    }

    boolean weight(int month, int v) {
        if (month < 0 || month > 11 || v < 0 || v > 99) {
            return false;
        }
        weights[month] = v;
        return true;
    }

    long likely(int picture, int what) {
        if (!isPicture(picture) || what < 0 || what > 2) {
            return NONE;
        }
        BitSet all = all(pictures.get(picture));
        long most = 0;
        long together = 0;
        long likeliest = NONE;
        for (int day = 0; day < DAYS; day++) {
            long heavy = (long) all.get(day * MINUTES, (day + 1) * MINUTES).cardinality() * weights[day % 360 / 30];
            together += heavy;
            if (heavy > most) {
                most = heavy;
                likeliest = day;
            }
        }
        if (together == 0) {
            return NONE;
        }
        Fraction share = Fraction.of(most, together);
        return what == 0 ? likeliest : (what == 1 ? share.upper : share.lower).longValueExact();
    }

    private long[] lookOf(int picture, int thing) {
        if (!isPicture(picture) || thing < 0 || thing >= town.things.size() || town.things.get(thing).give == 0) {
            return null;
        }
        Thing t = town.things.get(thing);
        long together = 0;
        long days = 0;
        for (int day = 0; day < DAYS; day++) {
            if (Math.abs(day - t.from) <= t.give && (t.till == NONE || day <= t.till)) {
                together += momentsIf(pictures.get(picture), 0, thing, day);
                days++;
            }
        }
        return new long[] {together, days};
    }

    long look(int picture, int thing, int what) {
        long[] look = lookOf(picture, thing);
        return look == null || what < 0 || what > 1 ? NONE : look[what];
    }

    int next(int picture) {
        int best = NONE;
        Fraction least = null;
        for (int thing = 0; thing < town.things.size(); thing++) {
            long[] look = lookOf(picture, thing);
            int number = thing;
            if (look == null || pictures.get(picture).stream().noneMatch(s -> s.what < 2 && s.a == number)) {
                continue;
            }
            Fraction f = Fraction.of(look[0], look[1]);
            if (least == null || f.upper.multiply(least.lower).compareTo(least.upper.multiply(f.lower)) < 0) {
                least = f;
                best = thing;
            }
        }
        return best;
    }

    private BitSet common(int set) {
        BitSet common = new BitSet(DAYS * MINUTES);
        common.set(0, DAYS * MINUTES);
        for (int i = 0; i < pictures.size(); i++) {
            if ((set >> i & 1) == 1) {
                common.and(all(pictures.get(i)));
            }
        }
        return common;
    }

    int cloud(int set, int what) {
        if (set <= 0 || set >= 1 << pictures.size() || what < 0 || what > 2) {
            return NONE;
        }
        if (what == 0) {
            return common(set).cardinality();
        }
        if (what == 1) {
            return common(set).nextSetBit(0);
        }
        for (int size = Integer.bitCount(set); size > 0; size--) {
            for (int part = 1; part <= set; part++) {
                if ((part & set) == part && Integer.bitCount(part) == size && !common(part).isEmpty()) {
                    return part;
                }
            }
        }
        return 0;
    }

    // ---- images

    int image() {
        if (imagePictures.size() == 4) {
            return NONE;
        }
        imagePictures.add(new ArrayList<>(pictures));
        imageWeights.add(weights.clone());
        return imagePictures.size() - 1;
    }

    boolean back(int image) {
        if (image < 0 || image >= imagePictures.size()) {
            return false;
        }
        pictures = new ArrayList<>(imagePictures.get(image));
        weights = imageWeights.get(image).clone();
        return true;
    }

    int count(int what) {
        switch (what) {
            case 0:
                return townsTaken;
            case 1:
                return pictures.size();
            case 2:
                return tape.length();
            case 3:
                return imagePictures.size();
            case 4:
                return pictures.stream().mapToInt(List::size).sum();
            default:
                return what >= 10 && what < 22 ? weights[what - 10] : NONE;
        }
    }
}
