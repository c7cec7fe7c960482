import java.util.Arrays;

/** When was this taken: a town told in a text, pictures told as signs, and which moments they can be. */
public final class PlateDay {
    /** There is none. */
    public static final int NONE = -1;

    private static final int REFUSED = -2;
    private static final int NO_ROOM = -3;
    private static final int NO_SHADOW = -1000000;

    private static final int TAPE = 1200;
    private static final int FEED = 20;
    private static final int LAST_DAY = 3599;
    private static final int LAST_MINUTE = 719;
    private static final int MONTHS = 12;
    private static final int YEARS = 10;
    private static final int YEAR_DAYS = 360;
    private static final int WEEK_DAYS = 7;
    private static final int SIDE = 32;
    private static final int MOST_GIVE = 99;
    private static final int PICTURES = 8;
    private static final int SIGNS = 12;
    private static final int IMAGES = 4;

    // Days and minutes are held as rows of 30 bits, since a month has 30 days and 24 such rows are 720 minutes.
    private static final int WIDE = 30;
    private static final int FULL = (1 << WIDE) - 1;
    private static final int DAY_ROWS = MONTHS * YEARS;
    private static final int MINUTE_ROWS = 24;

    // What a town tells of, numbered as told() wants it.
    private static final int THINGS = 0;
    private static final int TREES = 1;
    private static final int POSTS = 2;
    private static final int CLOCKS = 3;
    private static final int SUNS = 4;
    private static final int STATEMENTS = 5;

    // The numbers of a thing, as told() wants them.
    private static final int FROM = 0;
    private static final int FROM_GIVE = 1;
    private static final int TILL = 2;
    private static final int TILL_GIVE = 3;

    // The kinds of signs and their numbers, as sign() wants them.
    private static final int STANDS = 0;
    private static final int LACKS = 1;
    private static final int LEAF = 2;
    private static final int BARE = 3;
    private static final int SHADOW = 4;
    private static final int CLOCK = 5;
    private static final int WEEK = 6;
    private static final int YEAR = 7;
    private static final int BEFORE = 8;
    private static final int LEFT = 9;
    private static final int SIGN_NUMBERS = 5;

    private final byte[] tape = new byte[TAPE];
    private final Town place = new Town();
    private final Town draftTown = new Town();
    private final Picture draft = new Picture();
    private final Reader reader = new Reader(tape, place, draftTown, draft);
    private final Sun sun = new Sun(place);
    private final Law law = new Law(place, sun);
    private final Quarrels quarrels = new Quarrels(law);
    private final Ground ground = new Ground(place);
    private final Looks looks = new Looks(place, law);
    private final Album shown = new Album();
    private final Album[] kept = new Album[IMAGES];
    private int keptCount;
    private int taped;
    private int townsTaken;
    private int faultPlace = NONE;

    public PlateDay() {
        for (int i = 0; i < kept.length; i++) {
            kept[i] = new Album();
        }
    }

    public int feed(int a, int b, int c, int d, int e) {
        if (taped > TAPE - FEED) {
            return NONE;
        }
        putOnTape(a);
        putOnTape(b);
        putOnTape(c);
        putOnTape(d);
        putOnTape(e);
        return taped;
    }

    public int town(int n) {
        if (n < 0 || n > taped) {
            return REFUSED;
        }
        boolean good = reader.readsTown(n);
        endText(good);
        if (!good) {
            return NONE;
        }
        place.copyFrom(draftTown);
        shown.clear();
        keptCount = 0;
        townsTaken++;
        return place.countOf(STATEMENTS);
    }

    public int picture(int n) {
        if (n < 0 || n > taped) {
            return REFUSED;
        }
        if (shown.size() >= PICTURES) {
            return NO_ROOM;
        }
        draft.clear();
        boolean good = reader.readsSigns(n);
        endText(good);
        if (!good) {
            return NONE;
        }
        law.fill(draft);
        return shown.add(draft);
    }

    public int more(int picture, int n) {
        Picture old = shown.get(picture);
        if (old == null || n < 0 || n > taped) {
            return REFUSED;
        }
        draft.copyFrom(old);
        boolean good = reader.readsSigns(n);
        endText(good);
        if (!good) {
            return NONE;
        }
        law.fill(draft);
        old.copyFrom(draft);
        return old.size();
    }

    public int fault() {
        return faultPlace;
    }

    public int told(int what) {
        if (what >= 200) {
            return place.of(POSTS, (what - 200) / 3, (what - 200) % 3);
        }
        if (what >= 100) {
            return place.of(THINGS, (what - 100) / 4, (what - 100) % 4);
        }
        return place.countOf(what);
    }

    public int sign(int picture, int k, int what) {
        Picture p = shown.get(picture);
        return p == null ? NONE : p.tells(k, what);
    }

    public int lets(int picture, int k, int day, int minute) {
        Picture p = shown.get(picture);
        if (p == null || !p.has(k) || !isMoment(day, minute)) {
            return NONE;
        }
        return law.allows(p, k, day, minute) ? 1 : 0;
    }

    public int shadow(int post, int month, int minute, int what) {
        if (what < 0 || what > 3 || !sun.goesTo(post) || !sun.shines(month, minute)) {
            return NO_SHADOW;
        }
        int upper = what < 2 ? sun.upperX() : sun.upperY();
        int lower = sun.lower();
        int shared = (int) divisorOf(upper, lower);
        if (shared <= 0) {
            return NO_SHADOW;
        }
        return what % 2 == 0 ? upper / shared : lower / shared;
    }

    public int all(int picture) {
        Picture p = shown.get(picture);
        return p == null ? NONE : p.moments().momentCount();
    }

    public int days(int picture, int k) {
        Picture p = shown.get(picture);
        if (p == null || k < NONE) {
            return NONE;
        }
        return k == NONE ? p.moments().dayCount() : p.moments().dayAt(k);
    }

    public int runs(int picture, int k, int what) {
        Picture p = shown.get(picture);
        if (p == null || k < NONE) {
            return NONE;
        }
        if (k == NONE) {
            return what == 0 ? p.moments().runCount() : NONE;
        }
        return p.moments().runAt(k, what);
    }

    public int judge(int picture, int day, int minute) {
        Picture p = shown.get(picture);
        if (p == null || !isMoment(day, minute)) {
            return REFUSED;
        }
        for (int k = 0; k < p.size(); k++) {
            if (!law.allows(p, k, day, minute)) {
                return k;
            }
        }
        return NONE;
    }

    public int quarrel(int picture) {
        Picture p = shown.get(picture);
        if (p == null) {
            return NONE;
        }
        quarrels.weigh(p);
        return quarrels.smallestQuarrel();
    }

    public int doubt(int picture, int what) {
        Picture p = shown.get(picture);
        if (p == null || what < 0 || what > 1) {
            return NONE;
        }
        quarrels.weigh(p);
        return what == 0 ? quarrels.smallestDoubt() : quarrels.rivals();
    }

    public int stood(int picture, boolean over, int k) {
        Picture p = shown.get(picture);
        if (p == null || k < NONE) {
            return NONE;
        }
        int found = 0;
        for (int point = 0; point < SIDE * SIDE; point++) {
            if (ground.seesAll(p, over, point % SIDE, point / SIDE)) {
                if (found == k) {
                    return point;
                }
                found++;
            }
        }
        return k == NONE ? found : NONE;
    }

    public int late(int picture, int n) {
        Picture p = shown.get(picture);
        if (p == null || n < NONE || n > MOST_GIVE) {
            return NONE;
        }
        if (n != NONE) {
            return law.countLater(p, n);
        }
        for (int later = 0; later <= MOST_GIVE; later++) {
            if (law.countLater(p, later) > 0) {
                return later;
            }
        }
        return NONE;
    }

    public long couples(int one, int other, int a, int b, int what) {
        Picture p = shown.get(one);
        Picture q = shown.get(other);
        if (p == null || q == null || what < 0 || what > 2) {
            return NONE;
        }
        if (a < -LAST_MINUTE || b > LAST_MINUTE || a > b) {
            return NONE;
        }
        return couplesOf(p.moments(), q.moments(), a, b, what);
    }

    public boolean weight(int month, int v) {
        if (v < 0 || v > MOST_GIVE) {
            return false;
        }
        return shown.setWeight(month, v);
    }

    public long likely(int picture, int what) {
        Picture p = shown.get(picture);
        if (p == null || what < 0 || what > 2) {
            return NONE;
        }
        int most = 0;
        int day = NONE;
        int together = 0;
        for (int row = 0; row < DAY_ROWS; row++) {
            int bits = p.moments().dayRow(row);
            int heavy = p.moments().minutesIn(row % MONTHS) * shown.weightOf(row % MONTHS);
            together += heavy * Integer.bitCount(bits);
            if (bits != 0 && heavy > most) {
                most = heavy;
                day = row * WIDE + lowest(bits);
            }
        }
        long shared = divisorOf(most, together);
        if (together <= 0 || shared <= 0) {
            return NONE;
        }
        if (what == 0) {
            return day;
        }
        return what == 1 ? most / shared : together / shared;
    }

    public long look(int picture, int thing, int what) {
        Picture p = shown.get(picture);
        if (p == null || what < 0 || what > 1 || !looks.finds(p, thing)) {
            return NONE;
        }
        return what == 0 ? looks.together() : looks.dayCount();
    }

    public int next(int picture) {
        Picture p = shown.get(picture);
        return p == null ? NONE : looks.leastOf(p);
    }

    public int cloud(int pictures, int what) {
        if (pictures <= 0 || pictures >> shown.size() != 0) {
            return NONE;
        }
        if (what == 0) {
            return shown.commonCount(pictures);
        }
        if (what == 1) {
            return shown.firstCommon(pictures);
        }
        return what == 2 ? shown.mostMeeting(pictures) : NONE;
    }

    public int image() {
        if (keptCount >= kept.length) {
            return NONE;
        }
        kept[keptCount].copyFrom(shown);
        keptCount++;
        return keptCount - 1;
    }

    public boolean back(int image) {
        if (image < 0 || image >= keptCount || image >= kept.length) {
            return false;
        }
        shown.copyFrom(kept[image]);
        return true;
    }

    public int count(int what) {
        switch (what) {
            case 0:
                return townsTaken;
            case 1:
                return shown.size();
            case 2:
                return taped;
            case 3:
                return keptCount;
            case 4:
                return shown.signCount();
            default:
                return what < 10 ? NONE : shown.weightOf(what - 10);
        }
    }

    private void putOnTape(int number) {
        for (int shift = 24; shift >= 0; shift -= 8) {
            if (taped < tape.length) {
                tape[taped] = (byte) (number >> shift);
                taped++;
            }
        }
    }

    /** A text has been read, well or not: the tape is empty then. */
    private void endText(boolean good) {
        taped = 0;
        faultPlace = good ? NONE : reader.placeOfToken();
    }

    private static boolean isMoment(int day, int minute) {
        return day >= 0 && day <= LAST_DAY && minute >= 0 && minute <= LAST_MINUTE;
    }

    private static long couplesOf(Moments one, Moments other, int a, int b, int what) {
        long pairs = 0;
        int dayCount = 0;
        int first = NONE;
        for (int month = 0; month < MONTHS; month++) {
            int here = one.pairsIn(month, other, a, b);
            for (int row = month; row < DAY_ROWS && here > 0; row += MONTHS) {
                int both = one.dayRow(row) & other.dayRow(row);
                int day = row * WIDE + lowest(both);
                if (both != 0 && (first == NONE || day < first)) {
                    first = day;
                }
                dayCount += Integer.bitCount(both);
                pairs += (long) here * Integer.bitCount(both);
            }
        }
        if (what == 0) {
            return pairs;
        }
        return what == 1 ? dayCount : first;
    }

    /** The bits of the places from low to high, as far as they lie in one row. */
    private static int bitsOf(int low, int high) {
        int first = low < 0 ? 0 : low;
        int last = high < WIDE ? high : WIDE - 1;
        return first > last ? 0 : ((1 << (last - first + 1)) - 1) << first;
    }

    /** The place of the lowest bit. */
    private static int lowest(int bits) {
        return Integer.bitCount((bits & -bits) - 1);
    }

    /** The greatest common divisor; 0 of two zeros only. */
    private static long divisorOf(long one, long other) {
        long a = Math.abs(one);
        long b = Math.abs(other);
        // Each two steps halve the larger one, so 128 are more than two longs can need.
        for (int step = 0; step < 128 && b != 0; step++) {
            long rest = a % b;
            a = b;
            b = rest;
        }
        return a;
    }

    /** Stands at one token of a text after the other. */
    private static final class Scanner {
        private static final int END = 0;
        private static final int WORD = 1;
        private static final int NUMBER = 2;
        private static final int SEMICOLON = 3;
        private static final int STRANGE = 4;
        private static final int MOST_DIGITS = 4;
        private static final int MOST_LETTERS = 8;
        // The words that no NAME is, a blank behind each.
        private static final String WORDS =
            "thing from give till tree leaf bare post clock slow fast sun east west north south stands lacks shadow week year before left ";

        private final byte[] text;
        private int length;
        private int at;
        private int behind;
        private int kind;

        Scanner(byte[] text) {
            this.text = text;
        }

        void begin(int n) {
            length = Math.max(0, Math.min(n, text.length));
            behind = 0;
            step();
        }

        /** Where the token begins; the text's length behind the last one. */
        int placeOfToken() {
            return at;
        }

        boolean ended() {
            return kind == END;
        }

        void step() {
            at = behind;
            while (at < length && (text[at] == ' ' || text[at] == '\n')) {
                at++;
            }
            if (at >= length) {
                kind = END;
                return;
            }
            int first = text[at];
            boolean isLetter = first >= 'a' && first <= 'z';
            boolean isDigit = first >= '0' && first <= '9';
            behind = at + 1;
            if (!isLetter && !isDigit) {
                kind = first == ';' ? SEMICOLON : STRANGE;
                return;
            }
            kind = isLetter ? WORD : NUMBER;
            int least = isLetter ? 'a' : '0';
            int most = isLetter ? 'z' : '9';
            while (behind < length && text[behind] >= least && text[behind] <= most) {
                behind++;
            }
        }

        boolean takes(String word) {
            if (!isWord(word)) {
                return false;
            }
            step();
            return true;
        }

        boolean takesSemicolon() {
            if (kind != SEMICOLON) {
                return false;
            }
            step();
            return true;
        }

        /** The number that stands here, which stays; NONE: none that is so. */
        int numberHere() {
            if (kind != NUMBER || behind - at > MOST_DIGITS) {
                return NONE;
            }
            int number = 0;
            for (int i = at; i < behind && i < text.length; i++) {
                number = number * 10 + text[i] - '0';
            }
            return number;
        }

        /** Takes a number from low to high; NONE, taking nothing: there stands no such one. */
        int takeNumber(int low, int high) {
            int number = numberHere();
            if (number == NONE || number < low || number > high) {
                return NONE;
            }
            step();
            return number;
        }

        /** Takes what may be told as "give": 0 if it isn't; NONE: its number isn't so. */
        int takeGive() {
            return takes("give") ? takeNumber(0, MOST_GIVE) : 0;
        }

        /** The word of up to eight letters that stands here, packed by 32; 0: none that is so. */
        long wordHere() {
            if (kind != WORD || behind - at > MOST_LETTERS) {
                return 0;
            }
            long word = 0;
            for (int i = at; i < behind && i < text.length; i++) {
                word = word * 32 + text[i] - 'a' + 1;
            }
            return word;
        }

        /** Whether the word that stands here is one of the texts' own. */
        boolean isReserved() {
            int alike = 0;
            for (int i = 0; i < WORDS.length(); i++) {
                char letter = WORDS.charAt(i);
                boolean goesOn = alike != NONE && at + alike < behind && at + alike < text.length;
                if (letter != ' ') {
                    alike = goesOn && text[at + alike] == letter ? alike + 1 : NONE;
                } else if (alike != NONE && !goesOn) {
                    return true;
                } else {
                    alike = 0;
                }
            }
            return false;
        }

        private boolean isWord(String word) {
            if (kind != WORD || behind - at != word.length() || behind > text.length) {
                return false;
            }
            for (int i = 0; i < word.length(); i++) {
                if (text[at + i] != word.charAt(i)) {
                    return false;
                }
            }
            return true;
        }
    }

    /** What a TOWN tells. */
    private static final class Town {
        private static final int NAMED_KINDS = 4;
        private static final int SLOTS = 12;
        private static final int NUMBERS = 4;
        private static final int MOST_SUNS = 40;
        private static final int SUN_NUMBERS = 3;
        private static final int[] MOST = {12, 6, 10, 4};

        private final int[] counts = new int[STATEMENTS + 1];
        private final long[] names = new long[NAMED_KINDS * SLOTS];
        private final int[] numbers = new int[NAMED_KINDS * SLOTS * NUMBERS];
        private final int[] sunRows = new int[MONTHS];
        private final int[] suns = new int[MONTHS * MOST_SUNS * SUN_NUMBERS];

        void clear() {
            Arrays.fill(counts, 0);
            Arrays.fill(sunRows, 0);
        }

        void copyFrom(Town other) {
            System.arraycopy(other.counts, 0, counts, 0, counts.length);
            System.arraycopy(other.names, 0, names, 0, names.length);
            System.arraycopy(other.numbers, 0, numbers, 0, numbers.length);
            System.arraycopy(other.sunRows, 0, sunRows, 0, sunRows.length);
            System.arraycopy(other.suns, 0, suns, 0, suns.length);
        }

        /** How many of a kind are told; NONE: no such kind. */
        int countOf(int kind) {
            return kind < 0 || kind >= counts.length ? NONE : counts[kind];
        }

        boolean has(int kind, int i) {
            return kind >= 0 && kind < NAMED_KINDS && i >= 0 && i < counts[kind];
        }

        /** One of the numbers of the i-th of a kind; NONE: none such. */
        int of(int kind, int i, int j) {
            if (kind < 0 || kind >= NAMED_KINDS || i < 0 || i >= counts[kind] || j < 0 || j >= NUMBERS) {
                return NONE;
            }
            return numbers[(kind * SLOTS + i) * NUMBERS + j];
        }

        /** Whether there is room for one more of a kind. */
        boolean takesMore(int kind) {
            if (kind == SUNS) {
                return counts[SUNS] < MOST_SUNS;
            }
            return kind >= 0 && kind < MOST.length && counts[kind] < MOST[kind];
        }

        /** Tells one more of a kind; its numbers are set when they are read. */
        void tell(int kind, long name) {
            if (kind >= 0 && kind < NAMED_KINDS && takesMore(kind)) {
                names[kind * SLOTS + counts[kind]] = name;
                counts[kind]++;
            }
        }

        /** Sets the numbers of the one of a kind that was told last. */
        void setLast(int kind, int a, int b, int c, int d) {
            if (kind < 0 || kind >= NAMED_KINDS || !has(kind, counts[kind] - 1)) {
                return;
            }
            int first = (kind * SLOTS + counts[kind] - 1) * NUMBERS;
            numbers[first] = a;
            numbers[first + 1] = b;
            numbers[first + 2] = c;
            numbers[first + 3] = d;
        }

        void tellSun(int month, int minute, int east, int north) {
            if (month < 0 || month >= MONTHS || !takesMore(SUNS)) {
                return;
            }
            int first = (month * MOST_SUNS + sunRows[month]) * SUN_NUMBERS;
            suns[first] = minute;
            suns[first + 1] = east;
            suns[first + 2] = north;
            sunRows[month]++;
            counts[SUNS]++;
        }

        void tellStatement() {
            counts[STATEMENTS]++;
        }

        /** Which of a kind has a NAME; NONE: none. */
        int find(int kind, long name) {
            int told = kind < 0 || kind >= NAMED_KINDS ? 0 : counts[kind];
            for (int i = 0; i < told && i < SLOTS; i++) {
                if (names[kind * SLOTS + i] == name) {
                    return i;
                }
            }
            return NONE;
        }

        boolean knows(long name) {
            for (int kind = 0; kind < NAMED_KINDS; kind++) {
                if (find(kind, name) != NONE) {
                    return true;
                }
            }
            return false;
        }

        int sunRowsIn(int month) {
            return month < 0 || month >= MONTHS ? 0 : sunRows[month];
        }

        /** The MINUTE (j 0), to the east (1), to the north (2) of a row of a MONTH's SUN. */
        int sunNumber(int month, int row, int j) {
            if (month < 0 || month >= MONTHS || row < 0 || row >= sunRows[month] || j < 0 || j >= SUN_NUMBERS) {
                return NONE;
            }
            return suns[(month * MOST_SUNS + row) * SUN_NUMBERS + j];
        }
    }

    /** Reads the texts of TOWNS and of PICTURES; where it stands still is the FAULT. */
    private static final class Reader {
        private static final int MOST_STATEMENTS = 60;
        private static final int MOST_PLACE = YEAR_DAYS - 1;
        private static final int MOST_HIGH = 20;
        private static final int MOST_LONG = 99;
        private static final int NO_LONG = MOST_LONG + 1;

        private final Scanner scan;
        private final Town told;
        private final Town draft;
        private final Picture signs;

        Reader(byte[] text, Town told, Town draft, Picture signs) {
            this.scan = new Scanner(text);
            this.told = told;
            this.draft = draft;
            this.signs = signs;
        }

        int placeOfToken() {
            return scan.placeOfToken();
        }

        /** Reads a TOWN into the draft. */
        boolean readsTown(int n) {
            draft.clear();
            scan.begin(n);
            for (int i = 0; i < MOST_STATEMENTS && !scan.ended(); i++) {
                if (!readsStatement() || !scan.takesSemicolon()) {
                    return false;
                }
                draft.tellStatement();
            }
            return scan.ended();
        }

        /** Reads SIGNS behind those that the draft of a PICTURE has. */
        boolean readsSigns(int n) {
            scan.begin(n);
            int had = signs.size();
            for (int i = had; i < SIGNS && !scan.ended(); i++) {
                if (!readsSign() || !scan.takesSemicolon()) {
                    return false;
                }
            }
            return scan.ended() && signs.size() > had;
        }

        private boolean readsStatement() {
            if (scan.takes("thing")) {
                return readsThing();
            }
            if (scan.takes("tree")) {
                return readsTree();
            }
            if (scan.takes("post")) {
                return readsPost();
            }
            if (scan.takes("clock")) {
                return readsClock();
            }
            return scan.takes("sun") && readsSun();
        }

        private boolean takesNewName(int kind) {
            long name = scan.wordHere();
            if (name == 0 || scan.isReserved() || !draft.takesMore(kind) || draft.knows(name)) {
                return false;
            }
            draft.tell(kind, name);
            scan.step();
            return true;
        }

        private boolean readsThing() {
            if (!takesNewName(THINGS) || !scan.takes("from")) {
                return false;
            }
            int from = scan.takeNumber(0, LAST_DAY);
            int give = from == NONE ? NONE : scan.takeGive();
            if (give == NONE) {
                return false;
            }
            int till = NONE;
            int tillGive = 0;
            if (scan.takes("till")) {
                till = scan.takeNumber(from, LAST_DAY);
                tillGive = till == NONE ? NONE : scan.takeGive();
            }
            draft.setLast(THINGS, from, give, till, tillGive);
            return tillGive != NONE;
        }

        private boolean readsTree() {
            if (!takesNewName(TREES) || !scan.takes("leaf")) {
                return false;
            }
            int leaf = scan.takeNumber(0, MOST_PLACE);
            if (leaf == NONE || !scan.takes("bare") || scan.numberHere() == leaf) {
                return false;
            }
            int bare = scan.takeNumber(0, MOST_PLACE);
            draft.setLast(TREES, leaf, bare, NONE, NONE);
            return bare != NONE;
        }

        private boolean readsPost() {
            if (!takesNewName(POSTS)) {
                return false;
            }
            int x = scan.takeNumber(0, SIDE - 1);
            int y = x == NONE ? NONE : scan.takeNumber(0, SIDE - 1);
            int high = y == NONE ? NONE : scan.takeNumber(1, MOST_HIGH);
            draft.setLast(POSTS, x, y, high, NONE);
            return high != NONE;
        }

        private boolean readsClock() {
            if (!takesNewName(CLOCKS) || !scan.takes("slow")) {
                return false;
            }
            int slow = scan.takeNumber(0, MOST_GIVE);
            if (slow == NONE || !scan.takes("fast")) {
                return false;
            }
            int fast = scan.takeNumber(0, MOST_GIVE);
            draft.setLast(CLOCKS, slow, fast, NONE, NONE);
            return fast != NONE;
        }

        private boolean readsSun() {
            if (!draft.takesMore(SUNS)) {
                return false;
            }
            int month = scan.takeNumber(0, MONTHS - 1);
            if (month == NONE) {
                return false;
            }
            int last = draft.sunNumber(month, draft.sunRowsIn(month) - 1, 0);
            int minute = scan.takeNumber(last + 1, LAST_MINUTE);
            int east = minute == NONE ? NO_LONG : takeLong("east", "west");
            int north = east == NO_LONG ? NO_LONG : takeLong("north", "south");
            if (north == NO_LONG) {
                return false;
            }
            draft.tellSun(month, minute, east, north);
            return true;
        }

        private int takeLong(String ahead, String back) {
            boolean isAhead = scan.takes(ahead);
            if (!isAhead && !scan.takes(back)) {
                return NO_LONG;
            }
            int number = scan.takeNumber(0, MOST_LONG);
            if (number == NONE) {
                return NO_LONG;
            }
            return isAhead ? number : -number;
        }

        private boolean readsSign() {
            if (scan.takes("stands")) {
                return readsNamed(STANDS, THINGS);
            }
            if (scan.takes("lacks")) {
                return readsNamed(LACKS, THINGS);
            }
            if (scan.takes("leaf")) {
                return readsNamed(LEAF, TREES);
            }
            if (scan.takes("bare")) {
                return readsNamed(BARE, TREES);
            }
            if (scan.takes("shadow")) {
                return readsShadow();
            }
            if (scan.takes("clock")) {
                return readsShownTime();
            }
            if (scan.takes("week")) {
                return readsNumbered(WEEK, WEEK_DAYS - 1);
            }
            if (scan.takes("year")) {
                return readsNumbered(YEAR, YEARS - 1);
            }
            if (scan.takes("before")) {
                return readsTwoPosts(BEFORE);
            }
            return scan.takes("left") && readsTwoPosts(LEFT);
        }

        /** Takes the NAME of one of a kind that is told: its number; NONE, taking nothing: there stands none. */
        private int takeTold(int kind) {
            int number = told.find(kind, scan.wordHere());
            if (number != NONE) {
                scan.step();
            }
            return number;
        }

        private boolean readsNamed(int what, int kind) {
            int number = takeTold(kind);
            return number != NONE && signs.add(what, number, NONE, NONE, NONE);
        }

        private boolean readsNumbered(int what, int most) {
            int number = scan.takeNumber(0, most);
            return number != NONE && signs.add(what, number, NONE, NONE, NONE);
        }

        private boolean readsShadow() {
            int post = takeTold(POSTS);
            int x = post == NONE ? NONE : scan.takeNumber(0, SIDE - 1);
            int y = x == NONE ? NONE : scan.takeNumber(0, SIDE - 1);
            int give = y == NONE ? NONE : scan.takeGive();
            return give != NONE && signs.add(SHADOW, post, x, y, give);
        }

        private boolean readsShownTime() {
            int clock = takeTold(CLOCKS);
            int minute = clock == NONE ? NONE : scan.takeNumber(0, LAST_MINUTE);
            return minute != NONE && signs.add(CLOCK, clock, minute, NONE, NONE);
        }

        private boolean readsTwoPosts(int what) {
            int one = takeTold(POSTS);
            if (one == NONE || told.find(POSTS, scan.wordHere()) == one) {
                return false;
            }
            int other = takeTold(POSTS);
            return other != NONE && signs.add(what, one, other, NONE, NONE);
        }
    }

    /** The SIGNS of a PICTURE, and ALL that they let. */
    private static final class Picture {
        private final int[] numbers = new int[SIGNS * SIGN_NUMBERS];
        private final Moments moments = new Moments();
        private int count;

        void clear() {
            count = 0;
        }

        void copyFrom(Picture other) {
            System.arraycopy(other.numbers, 0, numbers, 0, numbers.length);
            moments.copyFrom(other.moments);
            count = other.count;
        }

        int size() {
            return count;
        }

        Moments moments() {
            return moments;
        }

        boolean has(int k) {
            return k >= 0 && k < count && k < SIGNS;
        }

        /** One of the numbers of a SIGN; NONE: none such. */
        int tells(int k, int what) {
            if (!has(k) || what < 0 || what >= SIGN_NUMBERS) {
                return NONE;
            }
            return numbers[k * SIGN_NUMBERS + what];
        }

        /** Whether a SIGN tells of a THING. */
        boolean names(int k, int thing) {
            int what = tells(k, 0);
            return (what == STANDS || what == LACKS) && tells(k, 1) == thing;
        }

        boolean add(int what, int a, int b, int c, int give) {
            if (count < 0 || count >= SIGNS) {
                return false;
            }
            int first = count * SIGN_NUMBERS;
            numbers[first] = what;
            numbers[first + 1] = a;
            numbers[first + 2] = b;
            numbers[first + 3] = c;
            numbers[first + 4] = give;
            count++;
            return true;
        }
    }

    /** MOMENTS: some DAYS, and in each MONTH the MINUTES that all its DAYS have. */
    private static final class Moments {
        private final int[] dayRows = new int[DAY_ROWS];
        private final int[] minuteRows = new int[MONTHS * MINUTE_ROWS];
        private final int[] minutes = new int[MONTHS];
        private final int[] runs = new int[MONTHS];

        void copyFrom(Moments other) {
            System.arraycopy(other.dayRows, 0, dayRows, 0, dayRows.length);
            System.arraycopy(other.minuteRows, 0, minuteRows, 0, minuteRows.length);
            System.arraycopy(other.minutes, 0, minutes, 0, minutes.length);
            System.arraycopy(other.runs, 0, runs, 0, runs.length);
        }

        void setDayRow(int row, int bits) {
            if (row >= 0 && row < DAY_ROWS) {
                dayRows[row] = bits;
            }
        }

        void setMinuteRow(int month, int row, int bits) {
            if (month >= 0 && month < MONTHS && row >= 0 && row < MINUTE_ROWS) {
                minuteRows[month * MINUTE_ROWS + row] = bits;
            }
        }

        int dayRow(int row) {
            return row < 0 || row >= DAY_ROWS ? 0 : dayRows[row];
        }

        int minuteRow(int month, int row) {
            if (month < 0 || month >= MONTHS || row < 0 || row >= MINUTE_ROWS) {
                return 0;
            }
            return minuteRows[month * MINUTE_ROWS + row];
        }

        /** Counts the MINUTES and RUNS of each MONTH; a DAY without MINUTES is none of ALL. */
        void settle() {
            for (int month = 0; month < MONTHS; month++) {
                int last = 0;
                minutes[month] = 0;
                runs[month] = 0;
                for (int row = 0; row < MINUTE_ROWS; row++) {
                    int bits = minuteRow(month, row);
                    minutes[month] += Integer.bitCount(bits);
                    runs[month] += Integer.bitCount(bits & ~(bits << 1 | last));
                    last = bits >> (WIDE - 1) & 1;
                }
                for (int row = month; row < DAY_ROWS && minutes[month] == 0; row += MONTHS) {
                    dayRows[row] = 0;
                }
            }
        }

        int minutesIn(int month) {
            return month < 0 || month >= MONTHS ? 0 : minutes[month];
        }

        int momentCount() {
            int sum = 0;
            for (int row = 0; row < DAY_ROWS; row++) {
                sum += Integer.bitCount(dayRows[row]) * minutes[row % MONTHS];
            }
            return sum;
        }

        int dayCount() {
            int sum = 0;
            for (int row = 0; row < DAY_ROWS; row++) {
                sum += Integer.bitCount(dayRows[row]);
            }
            return sum;
        }

        int dayAt(int k) {
            int left = k;
            for (int row = 0; row < DAY_ROWS; row++) {
                int here = Integer.bitCount(dayRows[row]);
                if (left < here) {
                    return row * WIDE + placeOf(dayRows[row], left);
                }
                left -= here;
            }
            return NONE;
        }

        int runCount() {
            int sum = 0;
            for (int row = 0; row < DAY_ROWS; row++) {
                sum += Integer.bitCount(dayRows[row]) * runs[row % MONTHS];
            }
            return sum;
        }

        int runAt(int k, int what) {
            int left = k;
            for (int row = 0; row < DAY_ROWS; row++) {
                int aDay = runs[row % MONTHS];
                int here = Integer.bitCount(dayRows[row]) * aDay;
                if (left < here && aDay > 0) {
                    int first = runStart(row % MONTHS, left % aDay);
                    switch (what) {
                        case 0:
                            return row * WIDE + placeOf(dayRows[row], left / aDay);
                        case 1:
                            return first;
                        case 2:
                            return runEnd(row % MONTHS, first);
                        default:
                            return NONE;
                    }
                }
                left -= here;
            }
            return NONE;
        }

        /** How many times a MINUTE of these lies, in one MONTH, from a to b ahead of one of the others. */
        int pairsIn(int month, Moments other, int a, int b) {
            int ahead = 0;
            for (int minute = Math.max(a, 0); minute <= Math.min(b, LAST_MINUTE); minute++) {
                ahead += other.bitAt(month, minute);
            }
            int sum = 0;
            for (int minute = 0; minute <= LAST_MINUTE; minute++) {
                sum += bitAt(month, minute) * ahead;
                ahead += other.bitAt(month, minute + 1 + b) - other.bitAt(month, minute + a);
            }
            return sum;
        }

        private int bitAt(int month, int minute) {
            return minute < 0 ? 0 : minuteRow(month, minute / WIDE) >> minute % WIDE & 1;
        }

        private int runStart(int month, int k) {
            int left = k;
            for (int minute = 0; minute <= LAST_MINUTE; minute++) {
                if (bitAt(month, minute) == 1 && bitAt(month, minute - 1) == 0) {
                    if (left == 0) {
                        return minute;
                    }
                    left--;
                }
            }
            return NONE;
        }

        private int runEnd(int month, int start) {
            int end = start;
            while (end < LAST_MINUTE && bitAt(month, end + 1) == 1) {
                end++;
            }
            return end;
        }

        /** The place of the k-th bit of a row. */
        private static int placeOf(int bits, int k) {
            int rest = bits;
            for (int i = 0; i < k && i < WIDE; i++) {
                rest &= rest - 1;
            }
            return lowest(rest);
        }
    }

    /** Where the SUN throws the shadow of a POST. */
    private static final class Sun {
        private final Town town;
        private int x;
        private int y;
        private int high;
        // How far the shadow of a post of 10 falls, as upper numbers over one lower one.
        private int east;
        private int north;
        private int span = 1;

        Sun(Town town) {
            this.town = town;
        }

        /** Goes to a POST; false: there is none. */
        boolean goesTo(int post) {
            if (!town.has(POSTS, post)) {
                return false;
            }
            x = town.of(POSTS, post, 0);
            y = town.of(POSTS, post, 1);
            high = town.of(POSTS, post, 2);
            return true;
        }

        /** Goes to a MINUTE of a MONTH; false: there is no SUN. */
        boolean shines(int month, int minute) {
            int rows = town.sunRowsIn(month);
            int row = 0;
            while (row < rows && town.sunNumber(month, row, 0) < minute) {
                row++;
            }
            boolean exact = row < rows && town.sunNumber(month, row, 0) == minute;
            if (row >= rows || row == 0 && !exact) {
                return false;
            }
            int before = exact ? row : row - 1;
            int start = town.sunNumber(month, before, 0);
            int done = minute - start;
            span = exact ? 1 : town.sunNumber(month, row, 0) - start;
            int left = span - done;
            east = town.sunNumber(month, before, 1) * left + town.sunNumber(month, row, 1) * done;
            north = town.sunNumber(month, before, 2) * left + town.sunNumber(month, row, 2) * done;
            return true;
        }

        /** The lower number of the shadow's x and y. */
        int lower() {
            return 10 * span;
        }

        int upperX() {
            return x * lower() + high * east;
        }

        int upperY() {
            return y * lower() + high * north;
        }

        /** The MINUTES of a row of a MONTH that a SIGN "shadow" LETS. */
        int minutesLet(Picture picture, int k, int month, int row) {
            if (town.sunRowsIn(month) == 0) {
                return FULL;
            }
            int toldX = picture.tells(k, 2);
            int toldY = picture.tells(k, 3);
            int give = picture.tells(k, 4);
            int bits = 0;
            if (!goesTo(picture.tells(k, 1))) {
                return bits;
            }
            for (int i = 0; i < WIDE; i++) {
                if (shines(month, row * WIDE + i) && fallsTo(toldX, toldY, give)) {
                    bits |= 1 << i;
                }
            }
            return bits;
        }

        private boolean fallsTo(int toldX, int toldY, int give) {
            int most = give * 10 * span;
            return Math.abs(upperX() - toldX * 10 * span) <= most && Math.abs(upperY() - toldY * 10 * span) <= most;
        }
    }

    /** What SIGNS LET. */
    private static final class Law {
        private final Town town;
        private final Sun sun;

        Law(Town town, Sun sun) {
            this.town = town;
            this.sun = sun;
        }

        boolean allows(Picture picture, int k, int day, int minute) {
            int dayBits = daysLet(picture, k, day / WIDE, 0);
            int minuteBits = minutesLet(picture, k, day / WIDE % MONTHS, minute / WIDE);
            return (dayBits >> day % WIDE & minuteBits >> minute % WIDE & 1) == 1;
        }

        /** The DAYS of a row that a SIGN LETS, if each "till" is some DAYS later. */
        int daysLet(Picture picture, int k, int row, int later) {
            int number = picture.tells(k, 1);
            switch (picture.tells(k, 0)) {
                case STANDS:
                    return daysStood(number, row, later);
                case LACKS:
                    return daysLacked(number, row, later);
                case LEAF:
                    return daysInLeaf(number, row);
                case BARE:
                    return FULL & ~daysInLeaf(number, row);
                case WEEK:
                    return daysOfWeek(number, row);
                case YEAR:
                    return row / MONTHS == number ? FULL : 0;
                default:
                    return FULL;
            }
        }

        /** The MINUTES of a row of a MONTH that a SIGN LETS. */
        int minutesLet(Picture picture, int k, int month, int row) {
            int what = picture.tells(k, 0);
            if (what == SHADOW) {
                return sun.minutesLet(picture, k, month, row);
            }
            if (what != CLOCK) {
                return FULL;
            }
            int clock = picture.tells(k, 1);
            int minute = picture.tells(k, 2) - row * WIDE;
            return bitsOf(minute - town.of(CLOCKS, clock, 1), minute + town.of(CLOCKS, clock, 0));
        }

        /** Finds ALL of a PICTURE. */
        void fill(Picture picture) {
            Moments moments = picture.moments();
            for (int month = 0; month < MONTHS; month++) {
                for (int row = 0; row < MINUTE_ROWS; row++) {
                    int bits = FULL;
                    for (int k = 0; k < picture.size() && bits != 0; k++) {
                        bits &= minutesLet(picture, k, month, row);
                    }
                    moments.setMinuteRow(month, row, bits);
                }
            }
            for (int row = 0; row < DAY_ROWS; row++) {
                moments.setDayRow(row, daysLater(picture, row, 0));
            }
            moments.settle();
        }

        /** How many MOMENTS a PICTURE has, if each "till" is some DAYS later. */
        int countLater(Picture picture, int later) {
            int sum = 0;
            for (int row = 0; row < DAY_ROWS; row++) {
                int minutes = picture.moments().minutesIn(row % MONTHS);
                if (minutes > 0) {
                    sum += Integer.bitCount(daysLater(picture, row, later)) * minutes;
                }
            }
            return sum;
        }

        private int daysLater(Picture picture, int row, int later) {
            int bits = FULL;
            for (int k = 0; k < picture.size() && bits != 0; k++) {
                bits &= daysLet(picture, k, row, later);
            }
            return bits;
        }

        private int daysStood(int thing, int row, int later) {
            int till = town.of(THINGS, thing, TILL);
            int first = town.of(THINGS, thing, FROM) - town.of(THINGS, thing, FROM_GIVE);
            int last = till == NONE ? LAST_DAY : till + later + town.of(THINGS, thing, TILL_GIVE);
            return bitsOf(first - row * WIDE, last - row * WIDE);
        }

        /** All but the DAYS on which the THING surely stood. */
        private int daysLacked(int thing, int row, int later) {
            int till = town.of(THINGS, thing, TILL);
            int first = town.of(THINGS, thing, FROM) + town.of(THINGS, thing, FROM_GIVE);
            int last = till == NONE ? LAST_DAY : till + later - town.of(THINGS, thing, TILL_GIVE);
            return FULL & ~bitsOf(first - row * WIDE, last - row * WIDE);
        }

        private int daysInLeaf(int tree, int row) {
            int start = row % MONTHS * WIDE;
            int leaf = town.of(TREES, tree, 0) - start;
            int bare = town.of(TREES, tree, 1) - start;
            return leaf < bare ? bitsOf(leaf, bare - 1) : FULL & ~bitsOf(bare, leaf - 1);
        }

        private static int daysOfWeek(int weekday, int row) {
            int bits = 0;
            for (int i = 0; i < WIDE; i++) {
                if ((row * WIDE + i) % WEEK_DAYS == weekday) {
                    bits |= 1 << i;
                }
            }
            return bits;
        }
    }

    /** Which sets of a PICTURE's SIGNS some MOMENT has all LET. */
    private static final class Quarrels {
        private static final int SETS = 1 << SIGNS;

        private final Law law;
        // 1: some MOMENT has all of the set LET.
        private final int[] can = new int[SETS];
        // In which round a set was noted last, so that each is noted once a round.
        private final int[] seen = new int[SETS];
        private final int[] noted = new int[YEARS * WIDE + MINUTE_ROWS * WIDE];
        private final int[] rowBits = new int[SIGNS];
        private int notedCount;
        private int round;
        private int size;

        Quarrels(Law law) {
            this.law = law;
        }

        void weigh(Picture picture) {
            size = Math.min(picture.size(), SIGNS);
            Arrays.fill(can, 0);
            for (int month = 0; month < MONTHS; month++) {
                notedCount = 0;
                noteDays(picture, month);
                int dayCount = notedCount;
                noteMinutes(picture, month);
                markMoments(dayCount);
            }
            markSmaller();
        }

        /** The least set without a MOMENT, by its size, then by its bits; 0: all SIGNS have one. */
        int smallestQuarrel() {
            int best = 0;
            for (int set = 1; set < 1 << size; set++) {
                if (can[set] == 0 && (best == 0 || Integer.bitCount(set) < Integer.bitCount(best))) {
                    best = set;
                }
            }
            return best;
        }

        /** The least set without which there is a MOMENT, by its size, then by its bits. */
        int smallestDoubt() {
            int every = (1 << size) - 1;
            int best = every;
            for (int set = 0; set <= every; set++) {
                if (can[every & ~set] == 1 && Integer.bitCount(set) < Integer.bitCount(best)) {
                    best = set;
                }
            }
            return best;
        }

        int rivals() {
            int every = (1 << size) - 1;
            int fewest = Integer.bitCount(smallestDoubt());
            int sum = 0;
            for (int set = 0; set <= every; set++) {
                if (can[every & ~set] == 1 && Integer.bitCount(set) == fewest) {
                    sum++;
                }
            }
            return sum;
        }

        private void noteDays(Picture picture, int month) {
            round++;
            for (int row = month; row < DAY_ROWS; row += MONTHS) {
                for (int k = 0; k < size; k++) {
                    rowBits[k] = law.daysLet(picture, k, row, 0);
                }
                noteRow();
            }
        }

        private void noteMinutes(Picture picture, int month) {
            round++;
            for (int row = 0; row < MINUTE_ROWS; row++) {
                for (int k = 0; k < size; k++) {
                    rowBits[k] = law.minutesLet(picture, k, month, row);
                }
                noteRow();
            }
        }

        /** Notes for each place of a row which SIGNS let it, those alike at once. */
        private void noteRow() {
            int left = FULL;
            for (int turn = 0; turn < WIDE && left != 0; turn++) {
                int first = left & -left;
                int alike = left;
                int set = 0;
                for (int k = 0; k < size; k++) {
                    if ((rowBits[k] & first) != 0) {
                        set |= 1 << k;
                        alike &= rowBits[k];
                    } else {
                        alike &= ~rowBits[k];
                    }
                }
                if (seen[set] != round && notedCount < noted.length) {
                    seen[set] = round;
                    noted[notedCount] = set;
                    notedCount++;
                }
                left &= ~alike;
            }
        }

        /** Each DAY of a MONTH has each of its MINUTES. */
        private void markMoments(int dayCount) {
            for (int i = 0; i < dayCount; i++) {
                for (int j = dayCount; j < notedCount; j++) {
                    can[noted[i] & noted[j]] = 1;
                }
            }
        }

        /** What can be together can be with one less. */
        private void markSmaller() {
            for (int k = 0; k < size; k++) {
                for (int set = 0; set < 1 << size; set++) {
                    if ((set >> k & 1) == 1 && can[set] == 1) {
                        can[set & ~(1 << k)] = 1;
                    }
                }
            }
        }
    }

    /** From which POINTS a PICTURE's "before" and "left" hold. */
    private static final class Ground {
        private final Town town;

        Ground(Town town) {
            this.town = town;
        }

        boolean seesAll(Picture picture, boolean over, int x, int y) {
            for (int k = 0; k < picture.size(); k++) {
                int what = picture.tells(k, 0);
                if ((what == BEFORE || what == LEFT) && !sees(picture, k, over, x, y)) {
                    return false;
                }
            }
            return true;
        }

        private boolean sees(Picture picture, int k, boolean over, int x, int y) {
            int one = picture.tells(k, 1);
            int other = picture.tells(k, 2);
            int ax = town.of(POSTS, one, 0) - x;
            int ay = town.of(POSTS, one, 1) - y;
            int bx = town.of(POSTS, other, 0) - x;
            int by = town.of(POSTS, other, 1) - y;
            int near = ax * ax + ay * ay;
            int far = bx * bx + by * by;
            if (near == 0 || far == 0) {
                return false;
            }
            int turn = ax * by - ay * bx;
            if (picture.tells(k, 0) == LEFT) {
                return over ? turn > 0 : turn < 0;
            }
            return turn == 0 && ax * bx + ay * by > 0 && near < far;
        }
    }

    /** LOOK of a THING: ALL, were its "from" told to the DAY, for each DAY that it can be. */
    private static final class Looks {
        private final Town town;
        private final Law law;
        // How many MOMENTS the other SIGNS let ahead of each DAY.
        private final int[] ahead = new int[LAST_DAY + 2];
        private boolean stands;
        private boolean lacks;
        private long together;
        private int dayCount;

        Looks(Town town, Law law) {
            this.town = town;
            this.law = law;
        }

        long together() {
            return together;
        }

        int dayCount() {
            return dayCount;
        }

        /** Finds the LOOK of a THING; false: none such. */
        boolean finds(Picture picture, int thing) {
            int from = town.of(THINGS, thing, FROM);
            int give = town.of(THINGS, thing, FROM_GIVE);
            if (!town.has(THINGS, thing) || give <= 0) {
                return false;
            }
            int till = town.of(THINGS, thing, TILL);
            int last = Math.min(from + give, till == NONE ? LAST_DAY : till);
            countAhead(picture, thing);
            together = 0;
            dayCount = 0;
            for (int day = Math.max(from - give, 0); day <= last; day++) {
                together += countFrom(thing, day);
                dayCount++;
            }
            return true;
        }

        /** The THING whose LOOK is least, of those that the SIGNS name; NONE: none. */
        int leastOf(Picture picture) {
            int best = NONE;
            long bestTogether = 0;
            long bestDays = 1;
            for (int thing = 0; thing < town.countOf(THINGS); thing++) {
                if (!isNamed(picture, thing) || !finds(picture, thing)) {
                    continue;
                }
                if (best == NONE || together * bestDays < bestTogether * dayCount) {
                    best = thing;
                    bestTogether = together;
                    bestDays = dayCount;
                }
            }
            return best;
        }

        private static boolean isNamed(Picture picture, int thing) {
            for (int k = 0; k < picture.size(); k++) {
                if (picture.names(k, thing)) {
                    return true;
                }
            }
            return false;
        }

        /** Counts what the SIGNS that don't name the THING let, and notes what those that do say of it. */
        private void countAhead(Picture picture, int thing) {
            stands = false;
            lacks = false;
            for (int k = 0; k < picture.size(); k++) {
                if (picture.names(k, thing)) {
                    stands = stands || picture.tells(k, 0) == STANDS;
                    lacks = lacks || picture.tells(k, 0) == LACKS;
                }
            }
            int sum = 0;
            for (int row = 0; row < DAY_ROWS; row++) {
                int bits = FULL;
                for (int k = 0; k < picture.size() && bits != 0; k++) {
                    bits &= picture.names(k, thing) ? FULL : law.daysLet(picture, k, row, 0);
                }
                int minutes = picture.moments().minutesIn(row % MONTHS);
                for (int i = 0; i < WIDE; i++) {
                    ahead[row * WIDE + i] = sum;
                    sum += (bits >> i & 1) * minutes;
                }
            }
            ahead[LAST_DAY + 1] = sum;
        }

        /** ALL, were "from" just this DAY: what "stands" and "lacks" leave ahead of it, and from it on. */
        private int countFrom(int thing, int from) {
            int till = town.of(THINGS, thing, TILL);
            int give = town.of(THINGS, thing, TILL_GIVE);
            int sum = stands ? 0 : countOf(0, from - 1);
            if (lacks && till == NONE) {
                return sum;
            }
            int first = lacks ? Math.max(from, till - give + 1) : from;
            int last = stands && till != NONE ? till + give : LAST_DAY;
            return sum + countOf(first, last);
        }

        private int countOf(int first, int last) {
            int low = Math.max(first, 0);
            int high = Math.min(last, LAST_DAY);
            return low > high ? 0 : ahead[high + 1] - ahead[low];
        }
    }

    /** PICTURES and weights, as they are or as an IMAGE keeps them. */
    private static final class Album {
        private final Picture[] pictures = new Picture[PICTURES];
        private final int[] weights = new int[MONTHS];
        private int count;

        Album() {
            for (int i = 0; i < pictures.length; i++) {
                pictures[i] = new Picture();
            }
            Arrays.fill(weights, 1);
        }

        void clear() {
            count = 0;
            Arrays.fill(weights, 1);
        }

        void copyFrom(Album other) {
            for (int i = 0; i < other.count && i < PICTURES; i++) {
                pictures[i].copyFrom(other.pictures[i]);
            }
            System.arraycopy(other.weights, 0, weights, 0, weights.length);
            count = other.count;
        }

        int size() {
            return count;
        }

        Picture get(int i) {
            return i < 0 || i >= count || i >= pictures.length ? null : pictures[i];
        }

        /** Adds a copy of a PICTURE: its number; NONE: no room. */
        int add(Picture picture) {
            if (count < 0 || count >= pictures.length) {
                return NONE;
            }
            pictures[count].copyFrom(picture);
            count++;
            return count - 1;
        }

        int signCount() {
            int sum = 0;
            for (int i = 0; i < count && i < pictures.length; i++) {
                sum += pictures[i].size();
            }
            return sum;
        }

        boolean setWeight(int month, int v) {
            if (month < 0 || month >= weights.length) {
                return false;
            }
            weights[month] = v;
            return true;
        }

        int weightOf(int month) {
            return month < 0 || month >= weights.length ? NONE : weights[month];
        }

        /** How many MOMENTS all PICTURES of a set have. */
        int commonCount(int set) {
            int sum = 0;
            for (int month = 0; month < MONTHS; month++) {
                int minutes = 0;
                for (int row = 0; row < MINUTE_ROWS; row++) {
                    minutes += Integer.bitCount(commonMinutes(set, month, row));
                }
                for (int row = month; row < DAY_ROWS && minutes > 0; row += MONTHS) {
                    sum += Integer.bitCount(commonDays(set, row)) * minutes;
                }
            }
            return sum;
        }

        /** The first MOMENT that all PICTURES of a set have; NONE: they have none. */
        int firstCommon(int set) {
            for (int row = 0; row < DAY_ROWS; row++) {
                int bits = commonDays(set, row);
                int minute = bits == 0 ? NONE : firstCommonMinute(set, row % MONTHS);
                if (minute != NONE) {
                    return (row * WIDE + lowest(bits)) * (LAST_MINUTE + 1) + minute;
                }
            }
            return NONE;
        }

        /** The most PICTURES of a set that have a MOMENT, of as many the least bits; 0: none has one. */
        int mostMeeting(int set) {
            int best = 0;
            for (int part = 1; part <= set && part < 1 << PICTURES; part++) {
                boolean larger = Integer.bitCount(part) > Integer.bitCount(best);
                if ((part & ~set) == 0 && larger && firstCommon(part) != NONE) {
                    best = part;
                }
            }
            return best;
        }

        private int firstCommonMinute(int set, int month) {
            for (int row = 0; row < MINUTE_ROWS; row++) {
                int bits = commonMinutes(set, month, row);
                if (bits != 0) {
                    return row * WIDE + lowest(bits);
                }
            }
            return NONE;
        }

        private int commonDays(int set, int row) {
            int bits = FULL;
            for (int i = 0; i < count && i < pictures.length && bits != 0; i++) {
                if ((set >> i & 1) == 1) {
                    bits &= pictures[i].moments().dayRow(row);
                }
            }
            return bits;
        }

        private int commonMinutes(int set, int month, int row) {
            int bits = FULL;
            for (int i = 0; i < count && i < pictures.length && bits != 0; i++) {
                if ((set >> i & 1) == 1) {
                    bits &= pictures[i].moments().minuteRow(month, row);
                }
            }
            return bits;
        }
    }
}
