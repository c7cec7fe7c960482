/** Promises 15 to 18: each sentence that names a boundary of QUARREL, DOUBT, STANDS and LATE, on both its sides. */
public final class EdgeSetTest {
    private static final Desk desk = new Desk("EdgeSetTest");
    private static final int[] NO_PICTURES = {-1, 2, 7, 8, Integer.MIN_VALUE, Integer.MAX_VALUE};

    public static void main(String[] args) {
        noQuarrel();
        smallestQuarrel();
        leastBits();
        allTwelve();
        unlikeMinutes();
        onePictureAfterTheOther();
        quarrelNone();
        doubtNothing();
        doubtFewest();
        doubtLeastBits();
        doubtAll();
        rivals();
        doubtNone();
        everyPoint();
        pointsOfPosts();
        inOneLine();
        onTheSameSide();
        leftOrNot();
        turnedOver();
        corners();
        onePoint();
        stoodNone();
        tillLater();
        eachTill();
        lateByMonths();
        laterToTheEnd();
        leastLater();
        lateNone();
        lateChangesNothing();
        desk.close();
    }

    private static void due(String picture, int quarrel, int doubt, int rivals) {
        desk.anew();
        desk.picture(picture, 0);
        PlateDay x = desk.now();
        desk.due("quarrel of " + picture, x.quarrel(0), quarrel);
        desk.due("doubt of " + picture, x.doubt(0, 0), doubt);
        desk.due("rivals of " + picture, x.doubt(0, 1), rivals);
        desk.due("a moment of " + picture, x.all(0) > 0, quarrel == 0);
    }

    private static final String CLOCKS = "clock c slow 0 fast 0;thing n from 0;thing o from 3599;thing u from 0 till 0;";

    private static void noQuarrel() {
        desk.says("Promise 15: QUARREL: bits. 0: there is a MOMENT");
        desk.fresh(CLOCKS);
        due("year 1;", 0, 0, 1);
        due("stands o;clock c 719;", 0, 0, 1);
        due("stands u;clock c 0;", 0, 0, 1);
        due("week 1;week 1;year 9;stands o;clock c 0;clock c 0;stands n;year 9;lacks u;", 0, 0, 1);
        // One MOMENT alone, and none.
        due("stands o;year 9;week 1;clock c 5;", 0, 0, 1);
        due("stands o;year 9;week 0;clock c 5;", 5, 1, 2);
    }

    private static void smallestQuarrel() {
        desk.says("Terms, 2: QUARREL, if there are none: the smallest set of SIGNS that no MOMENT has all LET");
        desk.fresh(CLOCKS);
        due("lacks n;", 1, 1, 1);
        due("year 1;lacks n;", 2, 2, 1);
        // One alone goes ahead of two with lesser bits.
        due("year 1;year 2;lacks n;", 4, 5, 2);
        due("year 1;year 2;week 1;week 2;clock c 1;clock c 2;lacks n;", 64, 64 + 16 + 4 + 1, 8);
        // Two go ahead of three.
        desk.fresh("tree e leaf 0 bare 30;clock c slow 0 fast 0;post p 10 10 10;sun 0 100 east 0 north 0;sun 0 200 east 10 north 0;");
        due("leaf e;clock c 101;shadow p 10 10;", 7, 1, 3);
        due("leaf e;clock c 101;shadow p 10 10;year 1;year 2;", 24, 9, 6);
        due("leaf e;clock c 100;shadow p 10 10;", 0, 0, 1);
    }

    private static void leastBits() {
        desk.says("Terms, 2: QUARREL .. (of as few the least bits)");
        desk.fresh(CLOCKS);
        due("lacks n;lacks n;", 1, 3, 1);
        due("year 3;lacks n;year 3;lacks n;", 2, 10, 1);
        due("year 1;year 1;year 2;", 5, 4, 1);
        due("year 1;year 2;year 2;", 3, 1, 1);
        due("year 1;year 2;year 3;", 3, 3, 3);
        // Of 6 and 9 the least is 6, though 9 has the first sign.
        due("year 1;clock c 1;clock c 2;year 2;", 6, 3, 4);
        due("clock c 1;year 1;week 1;year 2;week 2;clock c 2;", 10, 7, 8);
    }

    /** Each thing stands in a part of all DAYS, so that "lacks" of all twelve bars each one, and of eleven it doesn't. */
    private static String twelveParts() {
        StringBuilder town = new StringBuilder();
        for (int i = 0; i < 12; i++) {
            town.append("thing x").append((char) ('a' + i)).append(" from ").append(300 * i).append(" till ").append(300 * i + 299).append(';');
        }
        return town.toString();
    }

    private static String lacksOf(int things) {
        StringBuilder text = new StringBuilder();
        for (int i = 0; i < 12; i++) {
            if ((things >> i & 1) == 1) {
                text.append("lacks x").append((char) ('a' + i)).append(';');
            }
        }
        return text.toString();
    }

    private static void allTwelve() {
        desk.says("Terms, 2: QUARREL: the smallest set of SIGNS (of twelve, too)");
        desk.fresh(twelveParts());
        due(lacksOf(4095), 4095, 1, 12);
        for (int i = 0; i < 12; i++) {
            due(lacksOf(4095 & ~(1 << i)), 0, 0, 1);
            due(lacksOf(4095 & ~(1 << i)) + "stands x" + (char) ('a' + i) + ";", 0, 0, 1);
        }
        due(lacksOf(2047) + "stands xa;", 1 + 2048, 1, 2);
        due(lacksOf(2047) + "stands xk;", 1024 + 2048, 1024, 2);
    }

    /** Thirty MINUTES of MONTH 0, in each of which other ones of eleven shadows fall as told; on one they all do, if it is told. */
    private static String unlikeSuns(int whole) {
        StringBuilder town = new StringBuilder("post p 0 0 10;tree t leaf 0 bare 30;");
        int cell = 1;
        for (int minute = 0; minute < 30; minute++) {
            int here = minute == whole ? 0 : cell;
            cell += minute == whole ? 0 : 1;
            town.append("sun 0 ").append(minute).append(" east ").append(40 + here % 7 * 5).append(" north ").append(40 + here / 7 * 5).append(';');
        }
        return town.toString();
    }

    private static void unlikeMinutes() {
        desk.says("Terms, 2: QUARREL, DOUBT: the smallest set of SIGNS that no MOMENT has all LET (were each MINUTE of thirty unlike the others)");
        StringBuilder picture = new StringBuilder();
        for (int i = 0; i < 11; i++) {
            picture.append(i < 6 ? "shadow p " + i * 5 + " 31 give 40;" : "shadow p 31 " + (i - 6) * 5 + " give 40;");
        }
        picture.append("leaf t;");
        for (int whole = 0; whole < 30; whole++) {
            desk.fresh(unlikeSuns(whole));
            due(picture.toString(), 0, 0, 1);
            desk.due("the one MINUTE of 300 DAYS", desk.now().all(0), 300);
        }
        // Without it the first shadow to the east, the first to the north and the leaf can't be together.
        desk.fresh(unlikeSuns(30));
        due(picture.toString(), 1 + 64 + 2048, 1, 3);
    }

    private static void quarrelNone() {
        desk.says("Promise 15: NONE: none such.");
        PlateDay x = desk.fresh();
        desk.due("no picture at all", x.quarrel(0), -1);
        desk.picture("year 1;", 0);
        desk.picture("year 1;year 2;", 1);
        desk.due("the first one", x.quarrel(0), 0);
        desk.due("the last one", x.quarrel(1), 3);
        for (int picture : NO_PICTURES) {
            desk.due("no such picture " + picture, x.quarrel(picture), -1);
        }
    }

    private static void onePictureAfterTheOther() {
        desk.says("Terms, 2: QUARREL, DOUBT, RIVALS (of the PICTURE that is asked for, whichever was ahead of it)");
        PlateDay x = desk.fresh(CLOCKS);
        String[] pictures = {"year 1;week 1;clock c 1;", "year 1;year 2;clock c 1;", "lacks n;week 1;", "clock c 1;year 1;clock c 2;", "year 5;"};
        int[][] due = {{0, 0, 1}, {3, 1, 2}, {1, 1, 1}, {5, 1, 2}, {0, 0, 1}};
        for (int i = 0; i < 5; i++) {
            desk.picture(pictures[i], i);
        }
        for (int i : new int[] {0, 1, 0, 2, 0, 3, 1, 3, 2, 4, 3, 4, 0, 4}) {
            desk.due("rivals of " + pictures[i], x.doubt(i, 1), due[i][2]);
            desk.due("quarrel of " + pictures[i], x.quarrel(i), due[i][0]);
            desk.due("doubt of " + pictures[i], x.doubt(i, 0), due[i][1]);
        }
    }

    private static void doubtNothing() {
        desk.says("Terms, 2: DOUBT: the fewest SIGNS without which some MOMENT is left (none, if there is one)");
        desk.fresh(CLOCKS);
        due("year 1;", 0, 0, 1);
        due("year 1;year 1;year 1;year 1;year 1;year 1;year 1;year 1;year 1;year 1;year 1;year 1;", 0, 0, 1);
        due("stands o;clock c 719;", 0, 0, 1);
    }

    private static void doubtFewest() {
        desk.says("Terms, 2: DOUBT: the fewest SIGNS");
        desk.fresh(CLOCKS);
        due("year 1;year 1;year 2;year 1;", 5, 4, 1);
        due("year 2;year 1;year 1;year 2;year 1;", 3, 9, 1);
        due("year 1;year 2;clock c 1;clock c 1;clock c 2;", 3, 17, 2);
        due("year 1;lacks n;year 1;", 2, 2, 1);
        due("week 0;year 1;year 1;year 2;year 2;year 3;year 3;year 3;", 10, 2 + 4 + 8 + 16, 1);
    }

    private static void doubtLeastBits() {
        desk.says("Terms, 2: DOUBT .. (of as few the least bits)");
        desk.fresh(CLOCKS);
        due("year 1;year 2;", 3, 1, 2);
        // Of 6 and 9 the least is 6.
        due("year 1;year 2;year 2;year 1;", 3, 6, 2);
        due("year 2;year 1;year 2;year 1;", 3, 5, 2);
        due("week 1;year 1;week 1;year 2;", 10, 2, 2);
    }

    private static void doubtAll() {
        desk.says("Terms, 2: DOUBT: the fewest SIGNS without which some MOMENT is left (all of them, if each bars all)");
        desk.fresh(CLOCKS);
        for (int n = 1; n <= 12; n++) {
            due("lacks n;".repeat(n), 1, (1 << n) - 1, 1);
            if (n < 12) {
                due("lacks n;".repeat(n) + "year 1;", 1, (1 << n) - 1, 1);
                due("year 1;" + "lacks n;".repeat(n), 2, (1 << n + 1) - 2, 1);
            }
        }
    }

    private static void rivals() {
        desk.says("Terms, 2: RIVALS: how many sets of as few do.");
        desk.fresh(twelveParts());
        due(lacksOf(4095), 4095, 1, 12);
        StringBuilder all = new StringBuilder();
        for (int n = 1; n <= 12; n++) {
            all.append("stands x").append((char) ('a' + n - 1)).append(';');
            due(all.toString(), n == 1 ? 0 : 3, (1 << n - 1) - 1, n);
        }
        // Two of one year and two of another: just two sets of two.
        due("year 1;year 1;year 2;year 2;", 5, 3, 2);
        due("year 1;year 1;year 2;year 2;year 2;", 5, 3, 1);
        due("year 1;year 1;year 2;year 2;week 3;week 4;", 5, 1 + 2 + 16, 4);
    }

    private static void doubtNone() {
        desk.says("Promise 16: DOUBT: bits (what 0), RIVALS (1). NONE: none such.");
        PlateDay x = desk.fresh();
        desk.due("no picture at all", x.doubt(0, 0), -1);
        desk.picture("year 1;", 0);
        desk.picture("year 1;year 2;", 1);
        desk.due("the first one", x.doubt(0, 0), 0);
        desk.due("its rivals", x.doubt(0, 1), 1);
        desk.due("the last one", x.doubt(1, 0), 1);
        desk.due("its rivals", x.doubt(1, 1), 2);
        for (int what : new int[] {-1, 2, 3, Integer.MIN_VALUE, Integer.MAX_VALUE}) {
            desk.due("no such what " + what, x.doubt(0, what), -1);
            desk.due("no such what " + what, x.doubt(1, what), -1);
        }
        for (int picture : NO_PICTURES) {
            desk.due("no such picture " + picture, x.doubt(picture, 0), -1);
            desk.due("no such picture " + picture, x.doubt(picture, 1), -1);
        }
    }

    private static void points(String picture, boolean over, int... points) {
        desk.anew();
        desk.picture(picture, 0);
        PlateDay x = desk.ready(points.length + 2);
        desk.due("points of " + picture, x.stood(0, over, -1), points.length);
        for (int k = 0; k < points.length; k++) {
            desk.due("point " + k + " of " + picture, x.stood(0, over, k), points[k]);
        }
        desk.due("behind the last of " + picture, x.stood(0, over, points.length), -1);
    }

    private static void everyPoint() {
        desk.says("Terms, 2: STANDS of a PICTURE: POINTS .. By 32 y and x. Terms: POINTS: x and y 0 to 31.");
        desk.fresh("post a 10 10 1;post b 14 10 1;");
        for (String picture : new String[] {"year 1;", "shadow a 10 10;shadow b 1 1;", "year 1;year 2;"}) {
            desk.anew();
            desk.picture(picture, 0);
            PlateDay x = desk.now();
            for (boolean over : new boolean[] {false, true}) {
                desk.due("without before and left", x.stood(0, over, -1), 1024);
                for (int k : new int[] {0, 1, 31, 32, 33, 330, 334, 992, 1022, 1023}) {
                    desk.due("each one", x.stood(0, over, k), k);
                }
                desk.due("no more", x.stood(0, over, 1024), -1);
            }
        }
    }

    private static void pointsOfPosts() {
        desk.says("Terms, 2: POINTS, none of a POST that its \"before\" and \"left\" name (other POSTS' POINTS are)");
        desk.fresh("post a 3 0 1;post b 5 0 1;post o 1 0 1;post n 7 9 1;");
        // From 0, 1 (where o stands) and 2, not from a's own point.
        points("before a b;", false, 0, 1, 2);
        points("before a b;shadow o 1 1;", false, 0, 1, 2);
        points("before o b;", false, 0);
        points("before a b;before o b;", false, 0);
        points("before a b;before o a;", false, 0);
        desk.anew();
        desk.picture("left a b;", 0);
        // y of the line is 0: -2 (0 - y) is above 0 for all other ones.
        desk.due("none", desk.now().stood(0, false, -1), 0);
        desk.due("all but the line", desk.now().stood(0, true, -1), 1024 - 32);
        desk.more(0, "left a n;", 2);
        desk.more(0, "left n b;", 3);
        desk.due("n's own point is none", contains(true, 9 * 32 + 7), false);
        desk.anew();
        desk.picture("left a b;", 0);
        desk.due("if it's not named it's one", contains(true, 9 * 32 + 7), true);
    }

    private static boolean contains(boolean over, int point) {
        PlateDay x = desk.ready(1);
        int n = x.stood(0, over, -1);
        int low = 0;
        int high = n - 1;
        // The points come in their order, so that ten calls find one.
        for (int step = 0; step < 11 && low <= high; step++) {
            int k = (low + high) / 2;
            int here = x.stood(0, over, k);
            if (here == point) {
                return true;
            }
            low = here < point ? k + 1 : low;
            high = here < point ? high : k - 1;
        }
        return false;
    }

    private static void inOneLine() {
        desk.says("Terms, 2: \"before\": both POSTS are in one line from there, .. the first one nearer");
        desk.fresh("post a 10 10 1;post b 14 10 1;post c 14 14 1;post d 10 14 1;post e 16 13 1;post f 13 11 1;");
        points("before a b;", false, 320, 321, 322, 323, 324, 325, 326, 327, 328, 329);
        points("before b a;", false, 335, 336, 337, 338, 339, 340, 341, 342, 343, 344, 345, 346, 347, 348, 349, 350, 351);
        points("before a d;", false, 10, 42, 74, 106, 138, 170, 202, 234, 266, 298);
        points("before a c;", false, 0, 33, 66, 99, 132, 165, 198, 231, 264, 297);
        points("before d b;", false, 15 * 32 + 9, 16 * 32 + 8, 17 * 32 + 7, 18 * 32 + 6, 19 * 32 + 5, 20 * 32 + 4, 21 * 32 + 3, 22 * 32 + 2, 23 * 32 + 1,
            24 * 32);
    }

    private static void onTheSameSide() {
        desk.says("Terms, 2: \"before\": .. on the same side, the first one nearer");
        desk.fresh("post a 10 10 1;post b 14 10 1;post f 13 11 1;post e 16 12 1;post g 31 17 1;");
        // In the line of f and e, three to the east and one up, there is f's 10 10 behind, 7 9, 4 8 and 1 7.
        points("before f e;", false, 7 * 32 + 1, 8 * 32 + 4, 9 * 32 + 7, 10 * 32 + 10);
        points("before e f;", false, 13 * 32 + 19, 14 * 32 + 22, 15 * 32 + 25, 16 * 32 + 28, 17 * 32 + 31);
        // Between the two of them nothing is: b and a, with a free point or three.
        points("before a b;before b a;", false);
        points("before e g;", false, 7 * 32 + 1, 8 * 32 + 4, 9 * 32 + 7, 10 * 32 + 10, 11 * 32 + 13);
        points("before g e;", false);
    }

    private static void leftOrNot() {
        desk.says("Terms, 2: \"left\": (xa less x) times (yb less y) less (ya less y) times (xb less x) is below 0 (turned over: above 0).");
        desk.fresh("post a 0 1 1;post b 31 1 1;post c 1 0 1;post d 1 31 1;post e 0 0 1;post f 31 31 1;");
        String[] pictures = {"left a b;", "left b a;", "left c d;", "left d c;", "left e f;", "left f e;"};
        int[][] due = {{32, 0, 31, 960, 64, 1023}, {960, 64, 1023, 32, 0, 31}, {960, 2, 1023, 32, 0, 992}, {32, 0, 992, 960, 2, 1023},
            {496, 1, 991, 496, 32, 1022}, {496, 32, 1022, 496, 1, 991}};
        for (int i = 0; i < pictures.length; i++) {
            desk.anew();
            desk.picture(pictures[i], 0);
            PlateDay x = desk.now();
            for (int side = 0; side < 2; side++) {
                int n = due[i][3 * side];
                desk.due("points of " + pictures[i], x.stood(0, side == 1, -1), n);
                desk.due("the first", x.stood(0, side == 1, 0), due[i][3 * side + 1]);
                desk.due("the last", x.stood(0, side == 1, n - 1), due[i][3 * side + 2]);
                desk.due("no more", x.stood(0, side == 1, n), -1);
            }
        }
        // By 1 and by -1: y less x, for posts beside each other.
        desk.fresh("post a 10 10 1;post b 11 11 1;post c 20 20 1;");
        desk.picture("left a b;", 0);
        PlateDay near = desk.now();
        desk.due("y is less", near.stood(0, false, -1), 496);
        desk.due("the first", near.stood(0, false, 0), 1);
        desk.due("the last", near.stood(0, false, 495), 30 * 32 + 31);
        desk.due("y is more", near.stood(0, true, -1), 496);
        desk.due("the first", near.stood(0, true, 0), 32);
        desk.due("the last", near.stood(0, true, 495), 31 * 32 + 30);
        desk.fresh("post a 0 1 1;post b 31 1 1;post c 1 0 1;post d 1 31 1;");
        // Just one point from which the posts are a corner: two lines, each with 0 on it.
        points("left a b;left d c;", false, 0);
        points("left b a;left c d;", true, 0);
    }

    private static void turnedOver() {
        desk.says("Terms, 2: (turned over: above 0) (of \"left\" alone: \"before\" is the same)");
        desk.fresh("post a 3 0 1;post b 5 0 1;post c 2 2 1;");
        points("before a b;", true, 0, 1, 2);
        // From 0 0: 3 times 2 less 0 times 2 is above 0.
        points("before a b;left a c;", false);
        points("before a b;left a c;", true, 0, 1, 2);
        points("before a b;left c a;", false, 0, 1, 2);
        points("before a b;left c a;", true);
    }

    private static void corners() {
        desk.says("Terms: POINTS: x and y 0 to 31. (The four corners are, and there's none beside them.)");
        desk.fresh("post a 1 0 1;post b 2 0 1;post c 30 31 1;post d 29 31 1;post e 31 1 1;post f 31 2 1;post g 0 30 1;post h 0 29 1;post i 0 0 1;"
            + "post j 31 31 1;");
        points("before a b;", false, 0);
        points("before c d;", false, 1023);
        points("before e f;", false, 31);
        points("before g h;", false, 992);
        points("before i a;", false);
        points("before j c;", false);
        points("before i j;", false);
        points("before b i;before a i;", false, 3, 4, 5, 6, 7, 8, 9, 10, 11, 12, 13, 14, 15, 16, 17, 18, 19, 20, 21, 22, 23, 24, 25, 26, 27, 28, 29, 30,
            31);
    }

    private static void onePoint() {
        desk.says("Terms, 2: \"before\": .. the first one nearer (two POSTS at one POINT: neither is); \"left\": .. below 0 (it's 0)");
        desk.fresh("post a 10 10 1;post d 10 10 20;post b 14 10 1;");
        points("before a d;", false);
        points("before d a;", true);
        points("left a d;", false);
        points("left a d;", true);
        points("before d b;", false, 320, 321, 322, 323, 324, 325, 326, 327, 328, 329);
    }

    private static void stoodNone() {
        desk.says("Promise 17: STANDS: how many (k NONE), the k-th. NONE: none such.");
        PlateDay x = desk.fresh("post a 1 0 1;post b 2 0 1;");
        desk.due("no picture at all", x.stood(0, false, -1), -1);
        desk.picture("before a b;", 0);
        desk.picture("before a b;before b a;", 1);
        for (boolean over : new boolean[] {false, true}) {
            desk.due("one", x.stood(0, over, -1), 1);
            desk.due("the first", x.stood(0, over, 0), 0);
            desk.due("no second", x.stood(0, over, 1), -1);
            desk.due("none is no NONE", x.stood(1, over, -1), 0);
            desk.due("no first", x.stood(1, over, 0), -1);
            for (int k : new int[] {-2, -3, 1024, Integer.MIN_VALUE, Integer.MAX_VALUE}) {
                desk.due("no such k " + k, x.stood(0, over, k), -1);
            }
            for (int picture : NO_PICTURES) {
                desk.due("no such picture " + picture, x.stood(picture, over, -1), -1);
                desk.due("no such picture " + picture, x.stood(picture, over, 0), -1);
            }
        }
    }

    private static void late(String picture, int n, int due) {
        desk.anew();
        desk.picture(picture, 0);
        desk.due("late by " + n + " of " + picture, desk.now().late(0, n), due);
    }

    private static void tillLater() {
        desk.says("Terms, 2: LATE by n: ALL, if each \"till\" is n DAYS later. Promise 18: LATE by n (0 to 99): how many.");
        desk.fresh("thing m from 100 give 10 till 200 give 5;thing n from 300;thing w from 0 till 0;");
        for (int n : new int[] {0, 1, 2, 50, 98, 99}) {
            late("stands m;", n, 720 * (116 + n));
            late("lacks m;", n, 720 * (3600 - 86 - n));
            late("stands n;", n, 720 * 3300);
            late("lacks n;", n, 720 * 300);
            late("stands w;", n, 720 * (1 + n));
            late("lacks w;", n, 720 * (3599 - n));
            late("stands m;lacks m;", n, 720 * 30);
            late("year 1;", n, 720 * 360);
            late("stands m;year 1;", n, 0);
            late("stands m;week 0;", n, 720 * ((205 + n) / 7 - 12));
        }
    }

    private static void eachTill() {
        desk.says("Terms, 2: LATE by n: .. if each \"till\" is (of all THINGS at once)");
        desk.fresh("thing m from 100 till 200;thing o from 150 till 180 give 3;clock c slow 1 fast 1;");
        for (int n : new int[] {0, 1, 98, 99}) {
            late("stands m;stands o;", n, 720 * (34 + n));
            late("stands m;lacks o;", n, 720 * (50 + 23));
            late("lacks m;stands o;", n, 0);
            late("lacks m;lacks o;", n, 720 * (100 + 3599 - 200 - n));
            late("stands m;lacks o;clock c 5;", n, 3 * (50 + 23));
        }
    }

    private static void lateByMonths() {
        desk.says("Terms, 2: LATE by n: ALL (each MONTH's DAYS with its own MINUTES)");
        // MONTH 0 has a MINUTE a DAY, MONTH 1 two, MONTH 10 none, MONTH 11 three; all others have 720.
        desk.fresh("post p 10 10 10;sun 0 5 east 0 north 0;sun 1 5 east 0 north 0;sun 1 6 east 0 north 0;sun 10 5 east 1 north 0;sun 11 5 east 0 north 0;"
            + "sun 11 7 east 0 north 0;thing a from 25 till 29;thing b from 685 till 689;thing c from 655 till 659;thing d from 3590 till 3598;"
            + "thing e from 1075 till 1079;thing f from 320 till 329;thing g from 330;");
        for (int n : new int[] {0, 1, 2, 30, 31}) {
            late("stands a;shadow p 10 10;", n, 5 + 2 * Math.min(n, 30) + 720 * Math.max(0, n - 30));
            late("stands b;shadow p 10 10;", n, 3 * Math.min(n, 30) + Math.max(0, n - 30));
            late("stands c;shadow p 10 10;", n, 3600 + 3 * Math.max(0, n - 30));
            late("stands d;shadow p 10 10;", n, 3 * (9 + Math.min(n, 1)));
            late("stands e;shadow p 10 10;", n, 3 * 5 + Math.min(n, 30) + 2 * Math.max(0, n - 30));
        }
        late("stands f;shadow p 10 10;", 0, 0);
        late("stands f;shadow p 10 10;", -1, 1);
        late("stands f;shadow p 10 10;", 1, 3);
        late("stands f;stands g;shadow p 10 10;", -1, 1);
    }

    private static void laterToTheEnd() {
        desk.says("Terms: DAYS 0 to 3,599 (of LATE, too: a \"till\" that comes behind the end leaves none there)");
        desk.fresh("thing m from 3500 till 3599;thing n from 3500 till 3590;thing o from 3500 till 3590 give 9;thing p from 3500 till 3599 give 50;");
        for (int n : new int[] {0, 1, 8, 9, 10, 49, 50, 51, 99}) {
            late("stands m;", n, 720 * 100);
            late("stands n;", n, 720 * Math.min(100, 91 + n));
            late("stands o;", n, 720 * 100);
            late("lacks m;", n, 720 * 3500);
            late("lacks n;", n, 720 * (3500 + Math.max(0, 9 - n)));
            late("lacks o;", n, 720 * (3500 + Math.max(0, 18 - n)));
            late("lacks p;", n, 720 * (3500 + Math.max(0, 50 - n)));
        }
    }

    private static void leastLater() {
        desk.says("Promise 18: Of n NONE: the least n with a MOMENT. NONE: none");
        desk.fresh("thing m from 100 till 200 give 5;thing na from 205;thing nb from 206;thing nc from 207;thing nd from 303;thing ne from 304;"
            + "thing nf from 305;thing o from 0 till 10;clock c slow 0 fast 0;");
        late("stands m;", -1, 0);
        late("stands m;stands na;", -1, 0);
        late("stands m;stands nb;", -1, 1);
        late("stands m;stands nc;", -1, 2);
        late("stands m;stands nd;", -1, 98);
        late("stands m;stands ne;", -1, 99);
        late("stands m;stands nf;", -1, -1);
        late("stands m;stands ne;", 98, 0);
        late("stands m;stands ne;", 99, 720);
        late("stands m;stands nf;", 99, 0);
        late("stands m;stands nb;week 3;", -1, 1);
        late("stands m;stands nb;week 2;", -1, 7);
        late("lacks o;lacks m;year 0;", -1, 0);
        late("year 1;year 2;", -1, -1);
        late("stands m;stands nb;clock c 1;clock c 2;", -1, -1);
        late("stands m;stands nb;clock c 1;", -1, 1);
        late("stands m;stands nb;clock c 1;", 1, 1);
    }

    private static void lateNone() {
        desk.says("Promise 18: LATE by n (0 to 99) .. NONE: .. none such.");
        PlateDay x = desk.fresh("thing m from 100 till 200;");
        desk.due("no picture at all", x.late(0, 0), -1);
        desk.due("no picture at all", x.late(0, -1), -1);
        desk.picture("stands m;", 0);
        desk.picture("stands m;year 1;", 1);
        desk.due("0", x.late(0, 0), 720 * 101);
        desk.due("99", x.late(0, 99), 720 * 200);
        desk.due("none is no NONE", x.late(1, 0), 0);
        desk.due("none is no NONE", x.late(1, 99), 0);
        desk.due("no n", x.late(1, -1), -1);
        for (int n : new int[] {-2, -3, 100, 101, 3600, Integer.MIN_VALUE, Integer.MAX_VALUE}) {
            desk.due("no such n " + n, x.late(0, n), -1);
        }
        for (int picture : NO_PICTURES) {
            desk.due("no such picture " + picture, x.late(picture, 0), -1);
            desk.due("no such picture " + picture, x.late(picture, -1), -1);
        }
    }

    private static void lateChangesNothing() {
        desk.says("Promises 15 to 18: (to ask changes nothing)");
        PlateDay x = desk.fresh("thing m from 100 give 3 till 200 give 5;thing n from 206;post a 1 0 1;post b 2 0 1;");
        desk.picture("stands m;stands n;before a b;", 0);
        desk.picture("stands m;", 1);
        desk.keep();
        desk.due("late", x.late(0, 99), 720 * 99);
        desk.due("late", x.late(0, -1), 1);
        desk.due("quarrel", x.quarrel(0), 3);
        desk.due("doubt", x.doubt(0, 0), 1);
        desk.due("rivals", x.doubt(0, 1), 2);
        desk.due("stood", x.stood(0, true, -1), 1);
        desk.same("to ask");
        desk.due("late by 0 is all", x.late(1, 0), x.all(1));
        desk.due("quarrel again", x.quarrel(0), 3);
        desk.due("doubt of the other", x.doubt(1, 0), 0);
        desk.due("quarrel of the other", x.quarrel(1), 0);
    }
}
