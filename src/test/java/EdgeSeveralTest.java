/** Promises 19 to 24: each sentence that names a boundary of COUPLES, weights, LIKELIEST, LOOK, NEXT and CLOUD, on both its sides. */
public final class EdgeSeveralTest {
    private static final Desk desk = new Desk("EdgeSeveralTest");
    private static final int[] NO_PICTURES = {-1, 2, 7, 8, Integer.MIN_VALUE, Integer.MAX_VALUE};
    private static PlateDay x;

    public static void main(String[] args) {
        couplesFromTo();
        couplesOfOneDay();
        couplesByDays();
        couplesMost();
        couplesNone();
        weightsTold();
        weightsNotTold();
        likeliestFirst();
        likeliestShare();
        likeliestByMonths();
        nothingWeighs();
        likelyNone();
        lookDays();
        lookTogether();
        lookJustThat();
        lookByMonths();
        lookInAnyOrder();
        lookWithoutGive();
        lookNone();
        nextLeast();
        nextOfSeveral();
        nextNamed();
        nextNone();
        cloudOfOne();
        cloudFirst();
        cloudByMonths();
        cloudMost();
        cloudLeastBits();
        cloudNone();
        askedChangesNothing();
        desk.close();
    }

    private static void couples(int one, int other, int a, int b, long many, long days, long first) {
        String what = "couples " + one + " " + other + " " + a + " " + b;
        desk.due(what, x.couples(one, other, a, b, 0), many);
        desk.due(what + ": days", x.couples(one, other, a, b, 1), days);
        desk.due(what + ": the first", x.couples(one, other, a, b, 2), first);
    }

    private static void couplesFromTo() {
        desk.says("Terms, 2: COUPLES of two PICTURES: .. the second one's MINUTE from a to b behind the first one's.");
        x = desk.fresh("clock c slow 0 fast 0;clock d slow 1 fast 1;");
        desk.picture("clock c 300;year 1;", 0);
        desk.picture("clock c 310;year 1;", 1);
        desk.picture("clock d 310;year 1;", 2);
        couples(0, 1, 10, 10, 360, 360, 360);
        couples(0, 1, 9, 9, 0, 0, -1);
        couples(0, 1, 11, 11, 0, 0, -1);
        couples(0, 1, -719, 10, 360, 360, 360);
        couples(0, 1, -719, 9, 0, 0, -1);
        couples(0, 1, 10, 719, 360, 360, 360);
        couples(0, 1, 11, 719, 0, 0, -1);
        couples(1, 0, -10, -10, 360, 360, 360);
        couples(1, 0, 10, 10, 0, 0, -1);
        couples(1, 0, -719, -11, 0, 0, -1);
        couples(1, 0, -9, 719, 0, 0, -1);
        couples(0, 2, 9, 9, 360, 360, 360);
        couples(0, 2, 8, 9, 360, 360, 360);
        couples(0, 2, 9, 10, 720, 360, 360);
        couples(0, 2, 9, 11, 1080, 360, 360);
        couples(0, 2, 11, 12, 360, 360, 360);
        couples(0, 2, 12, 12, 0, 0, -1);
        couples(2, 2, 0, 0, 1080, 360, 360);
        couples(2, 2, 2, 2, 360, 360, 360);
        couples(2, 2, 3, 719, 0, 0, -1);
        couples(2, 2, -2, 2, 9 * 360, 360, 360);
    }

    private static void couplesOfOneDay() {
        desk.says("Terms, 2: COUPLES: of a MOMENT of ALL of each on one DAY");
        x = desk.fresh("clock c slow 0 fast 0;thing m from 100 till 100;thing n from 101 till 101;thing o from 100 till 101;");
        desk.picture("stands m;clock c 719;", 0);
        desk.picture("stands n;clock c 0;", 1);
        desk.picture("stands o;clock c 0;", 2);
        couples(0, 1, -719, 719, 0, 0, -1);
        couples(1, 0, -719, 719, 0, 0, -1);
        couples(0, 2, -719, 719, 1, 1, 100);
        couples(0, 2, -719, -719, 1, 1, 100);
        couples(0, 2, -718, 719, 0, 0, -1);
        couples(2, 0, 719, 719, 1, 1, 100);
        couples(2, 0, -719, 718, 0, 0, -1);
        couples(2, 1, 0, 0, 1, 1, 101);
    }

    private static void couplesByDays() {
        desk.says("Promise 19: COUPLES: how many (what 0), on how many DAYS (1), the first such DAY (2; NONE).");
        // MONTH 0 has just MINUTE 300, where the clock shows 301 and 302: other MONTHS have more.
        x = desk.fresh("post p 10 10 10;sun 0 300 east 0 north 0;clock c slow 0 fast 0;clock d slow 1 fast 0;thing o from 3599;thing w from 0 till 0;"
            + "thing q from 29 till 30;");
        desk.picture("shadow p 10 10;", 0);
        desk.picture("clock c 302;", 1);
        desk.picture("stands o;clock c 719;", 2);
        desk.picture("stands w;", 3);
        desk.picture("stands q;clock d 301;", 4);
        couples(0, 1, 2, 2, 3600, 3600, 0);
        couples(0, 1, 1, 1, 3300, 3300, 30);
        couples(0, 1, 1, 2, 2 * 3300 + 300, 3600, 0);
        couples(2, 0, -719, -719, 1, 1, 3599);
        couples(0, 2, 0, 0, 1, 1, 3599);
        couples(0, 3, 0, 0, 1, 1, 0);
        couples(3, 0, 301, 719, 0, 0, -1);
        couples(3, 0, 0, 300, 301, 1, 0);
        couples(0, 4, 1, 1, 3, 2, 29);
        couples(0, 4, 2, 2, 3, 2, 29);
        couples(0, 4, 3, 3, 2, 1, 30);
        couples(0, 4, 0, 0, 2, 1, 30);
    }

    private static void couplesMost() {
        desk.says("Promise 19: COUPLES (a not above b, both -719 to 719): how many (of each MINUTE with each on each DAY)");
        x = desk.fresh("post p 1 1 1;post q 2 2 2;");
        desk.picture("left p q;", 0);
        desk.picture("before p q;", 1);
        couples(0, 1, -719, 719, 720L * 720 * 3600, 3600, 0);
        couples(0, 1, -718, 719, (720L * 720 - 1) * 3600, 3600, 0);
        couples(0, 1, -719, 718, (720L * 720 - 1) * 3600, 3600, 0);
        couples(0, 1, 0, 719, 720L * 721 / 2 * 3600, 3600, 0);
        couples(0, 1, 1, 719, 719L * 720 / 2 * 3600, 3600, 0);
        couples(0, 1, -719, -1, 719L * 720 / 2 * 3600, 3600, 0);
        couples(0, 0, 0, 0, 720L * 3600, 3600, 0);
        couples(1, 1, 719, 719, 3600, 3600, 0);
        couples(1, 1, -719, -719, 3600, 3600, 0);
    }

    private static void couplesNone() {
        desk.says("Promise 19: (a not above b, both -719 to 719) .. NONE: none such.");
        x = desk.fresh();
        desk.due("no picture at all", x.couples(0, 0, 0, 0, 0), -1);
        desk.picture("year 1;", 0);
        desk.picture("year 1;", 1);
        for (int what = 0; what < 3; what++) {
            desk.due("a is b", x.couples(0, 1, 5, 5, what) > 0, true);
            desk.due("a is above b", x.couples(0, 1, 6, 5, what), -1);
            desk.due("a is above b", x.couples(0, 1, 0, -1, what), -1);
            desk.due("a is above b", x.couples(0, 1, 719, -719, what), -1);
            desk.due("both the least", x.couples(0, 1, -719, -719, what) > 0, true);
            desk.due("both the most", x.couples(0, 1, 719, 719, what) > 0, true);
            desk.due("the widest", x.couples(0, 1, -719, 719, what) > 0, true);
            desk.due("a is less", x.couples(0, 1, -720, 719, what), -1);
            desk.due("a is less", x.couples(0, 1, -720, -720, what), -1);
            desk.due("b is more", x.couples(0, 1, -719, 720, what), -1);
            desk.due("b is more", x.couples(0, 1, 720, 720, what), -1);
            desk.due("wild", x.couples(0, 1, Integer.MIN_VALUE, 0, what), -1);
            desk.due("wild", x.couples(0, 1, 0, Integer.MAX_VALUE, what), -1);
            desk.due("wild", x.couples(0, 1, Integer.MIN_VALUE, Integer.MAX_VALUE, what), -1);
            for (int picture : NO_PICTURES) {
                desk.due("no such first picture " + picture, x.couples(picture, 1, 0, 0, what), -1);
                desk.due("no such second picture " + picture, x.couples(0, picture, 0, 0, what), -1);
            }
        }
        for (int what : new int[] {-1, 3, 4, Integer.MIN_VALUE, Integer.MAX_VALUE}) {
            desk.due("no such what " + what, x.couples(0, 1, 0, 0, what), -1);
        }
    }

    private static void weightsTold() {
        desk.says("Promise 20: A MONTH's weight: true. Terms, 2: Weights of MONTHS 0 to 99. Terms: its MONTH .. (0 to 11)");
        x = desk.fresh();
        for (int month = 0; month < 12; month++) {
            for (int v : new int[] {0, 99, month + 1}) {
                desk.due("weight " + month + " " + v, x.weight(month, v), true);
                desk.due("is told", x.count(10 + month), v);
            }
        }
        for (int month = 0; month < 12; month++) {
            desk.due("each its own", x.count(10 + month), month + 1);
        }
        // Each MONTH's weight weighs its own DAYS.
        desk.picture("year 9;", 0);
        for (int month = 0; month < 12; month++) {
            for (int other = 0; other < 12; other++) {
                desk.due("weight", x.weight(other, other == month ? 1 : 0), true);
            }
            desk.due("the first day of " + month, x.likely(0, 0), 3240 + 30 * month);
            desk.due("of thirty", x.likely(0, 2), 30);
        }
    }

    private static void weightsNotTold() {
        desk.says("Promise 20: false: not as told. (It's as it was then.)");
        x = desk.fresh();
        for (int month = 0; month < 12; month++) {
            desk.due("weight", x.weight(month, 20 + month), true);
        }
        desk.picture("year 1;", 0);
        desk.keep();
        for (int month : new int[] {-1, 12, 13, -10, Integer.MIN_VALUE, Integer.MAX_VALUE}) {
            for (int v : new int[] {0, 1, 99}) {
                desk.due("no such month " + month, x.weight(month, v), false);
            }
        }
        for (int v : new int[] {-1, 100, 101, Integer.MIN_VALUE, Integer.MAX_VALUE}) {
            for (int month : new int[] {0, 5, 11}) {
                desk.due("no such weight " + v, x.weight(month, v), false);
            }
            desk.due("neither", x.weight(12, v), false);
        }
        desk.same("a refused weight");
    }

    private static void likely(int picture, long day, long upper, long lower) {
        desk.due("likely " + picture, x.likely(picture, 0), day);
        desk.due("likely " + picture + ": upper number", x.likely(picture, 1), upper);
        desk.due("likely " + picture + ": lower number", x.likely(picture, 2), lower);
    }

    private static void likeliestFirst() {
        desk.says("Terms, 2: LIKELIEST: the DAY with the most MINUTES of ALL times its MONTH's weight (of several the first)");
        // Up to day 89 MONTH 0 has one MINUTE a DAY, MONTH 1 two, MONTH 2 three.
        x = desk.fresh("post p 10 10 10;sun 0 100 east 0 north 0;sun 1 100 east 0 north 0;sun 1 101 east 0 north 0;sun 2 100 east 0 north 0;"
            + "sun 2 102 east 0 north 0;thing a from 0 till 89;");
        desk.picture("stands a;shadow p 10 10;", 0);
        likely(0, 60, 1, 60);
        int[][] weights = {{3, 1, 1}, {2, 1, 1}, {4, 1, 1}, {3, 2, 1}, {6, 3, 2}, {6, 3, 1}, {0, 3, 2}, {0, 2, 1}, {99, 49, 33}, {98, 49, 33}, {98, 49, 32},
            {0, 0, 1}, {0, 1, 0}, {1, 0, 0}};
        // By MONTHS: 3 2 3, 2 2 3, 4 2 3, 3 4 3, 6 6 6, 6 6 3, 0 6 6, 0 4 3, 99 98 99, 98 98 99, 98 98 96, 0 0 3, 0 2 0, 1 0 0.
        int[][] due = {{0, 1, 80}, {60, 1, 70}, {0, 2, 135}, {30, 2, 150}, {0, 1, 90}, {0, 2, 150}, {30, 1, 60}, {30, 2, 105}, {0, 99, 30 * 296},
            {60, 99, 30 * 295}, {0, 98, 30 * 292}, {60, 1, 30}, {30, 1, 30}, {0, 1, 30}};
        for (int i = 0; i < weights.length; i++) {
            for (int month = 0; month < 3; month++) {
                desk.due("weight", x.weight(month, weights[i][month]), true);
            }
            likelyOf(0, due[i][0], due[i][1], due[i][2]);
        }
    }

    private static void likelyOf(int picture, int day, int upper, int lower) {
        int shared = 1;
        for (int i = 2; i <= upper; i++) {
            shared = upper % i == 0 && lower % i == 0 ? i : shared;
        }
        likely(picture, day, upper / shared, lower / shared);
    }

    private static void likeliestShare() {
        desk.says("Terms, 2: LIKELIEST: .. its SHARE: that by all DAYS' together. Promise 21: .. in lowest terms.");
        x = desk.fresh("clock c slow 6 fast 0;thing b from 3599;thing f from 0 till 0;thing g from 3598;thing n from 0;");
        desk.picture("stands b;clock c 719;", 0);
        desk.picture("stands f;clock c 0;", 1);
        desk.picture("stands g;", 2);
        desk.picture("stands n;", 3);
        desk.picture("week 0;clock c 5;", 4);
        likely(0, 3599, 1, 1);
        likely(1, 0, 1, 1);
        likely(2, 3598, 1, 2);
        likely(3, 0, 1, 3600);
        likely(4, 0, 1, 515);
        for (int month = 0; month < 12; month++) {
            desk.due("weight", x.weight(month, 99), true);
        }
        likely(0, 3599, 1, 1);
        likely(3, 0, 1, 3600);
        desk.due("weight", x.weight(7, 98), true);
        // 99 by 3,300 times 99 and 300 times 98: by 3 each.
        likely(3, 0, 33, 118700);
        desk.due("weight", x.weight(0, 97), true);
        // 300 times 1,185 is 9 times 39,500.
        likely(3, 30, 11, 39500);
    }

    private static void likeliestByMonths() {
        desk.says("Terms, 2: LIKELIEST: the DAY with the most MINUTES of ALL times its MONTH's weight (each MONTH's DAYS with its own MINUTES)");
        // MONTH 0 has a MINUTE a DAY, MONTH 1 two and so on, MONTH 11 has twelve.
        StringBuilder town = new StringBuilder("post p 10 10 10;thing a from 360;");
        for (int month = 0; month < 12; month++) {
            town.append("sun ").append(month).append(" 100 east 0 north 0;");
            town.append(month == 0 ? "" : "sun " + month + " " + (100 + month) + " east 0 north 0;");
        }
        x = desk.fresh(town.toString());
        desk.picture("shadow p 10 10;stands a;", 0);
        likelyOf(0, 360 + 330, 12, 9 * 30 * 78);
        desk.due("weight", x.weight(11, 11), true);
        desk.due("weight", x.weight(5, 22), true);
        // 132 both: the first of them.
        likelyOf(0, 360 + 150, 132, 9 * 30 * (78 - 12 - 6 + 264));
        desk.due("weight", x.weight(11, 12), true);
        likelyOf(0, 360 + 330, 144, 9 * 30 * (78 - 12 - 6 + 132 + 144));
    }

    private static void nothingWeighs() {
        desk.says("Promise 21: NONE: nothing weighs");
        x = desk.fresh("thing g from 29 till 30;");
        desk.picture("stands g;", 0);
        desk.picture("stands g;year 1;", 1);
        likely(0, 29, 1, 2);
        likely(1, -1, -1, -1);
        desk.due("weight", x.weight(0, 0), true);
        likely(0, 30, 1, 1);
        desk.due("weight", x.weight(1, 0), true);
        likely(0, -1, -1, -1);
        desk.due("weight", x.weight(2, 99), true);
        likely(0, -1, -1, -1);
        desk.due("weight", x.weight(0, 1), true);
        likely(0, 29, 1, 1);
        likely(1, -1, -1, -1);
    }

    private static void likelyNone() {
        desk.says("Promise 21: LIKELIEST: the DAY (what 0), its SHARE's upper number (1), lower one (2) .. NONE: .. none such.");
        x = desk.fresh();
        desk.due("no picture at all", x.likely(0, 0), -1);
        desk.picture("year 1;", 0);
        desk.picture("year 0;", 1);
        likely(0, 360, 1, 360);
        likely(1, 0, 1, 360);
        for (int what : new int[] {-1, 3, 4, Integer.MIN_VALUE, Integer.MAX_VALUE}) {
            desk.due("no such what " + what, x.likely(0, what), -1);
        }
        for (int picture : NO_PICTURES) {
            for (int what = 0; what < 3; what++) {
                desk.due("no such picture " + picture, x.likely(picture, what), -1);
            }
        }
    }

    private static void look(int picture, int thing, long together, long days) {
        x = desk.ready(2);
        desk.due("look " + picture + " " + thing, x.look(picture, thing, 0), together);
        desk.due("look " + picture + " " + thing + ": days", x.look(picture, thing, 1), days);
    }

    /** Twelve things, each with another edge of the DAYS that its "from" can be. */
    private static final String EDGES = "thing ma from 5 give 4;thing mb from 5 give 5;thing mc from 5 give 6;thing ta from 100 give 10 till 110;"
        + "thing tb from 100 give 10 till 111;thing tc from 100 give 10 till 109;thing td from 100 give 10 till 100;thing ea from 3595 give 4;"
        + "thing eb from 3595 give 5;thing z from 0 give 1;thing y from 3599 give 99;thing w from 0 give 99 till 0;";

    private static void lookDays() {
        desk.says("Terms, 2: LOOK: of all DAYS that its \"from\" can be (from less to and GIVE, 0 at least, \"till\" at most). Terms: DAYS 0 to 3,599");
        int[] days = {9, 11, 12, 21, 21, 20, 11, 9, 10, 2, 100, 1};
        desk.fresh(EDGES);
        desk.picture("week 1;", 0);
        for (int thing = 0; thing < 12; thing++) {
            // It isn't named, so each of its DAYS leaves ALL.
            look(0, thing, days[thing] * 720L * 515, days[thing]);
        }
        desk.fresh("thing a from 0 give 99;thing b from 98 give 99;thing c from 99 give 99;thing d from 100 give 99;thing e from 3500 give 99;"
            + "thing f from 3501 give 99;thing g from 3598 give 1;thing h from 3599 give 1;thing i from 7 give 1 till 7 give 99;");
        int[] others = {100, 198, 199, 199, 199, 198, 3, 2, 2};
        desk.picture("week 1;", 0);
        for (int thing = 0; thing < others.length; thing++) {
            look(0, thing, others[thing] * 720L * 515, others[thing]);
        }
    }

    private static void lookTogether() {
        desk.says("Terms, 2: LOOK: .. how many MOMENTS of ALL there'd be, if it were just that, together");
        String[] names = {"ma", "mb", "mc", "ta", "tb", "tc", "td", "ea", "eb", "z", "y", "w"};
        int[] firsts = {1, 0, 0, 90, 90, 90, 90, 3591, 3590, 0, 3500, 0};
        int[] lasts = {9, 10, 11, 110, 110, 109, 100, 3599, 3599, 1, 3599, 0};
        int[] tills = {3599, 3599, 3599, 110, 111, 109, 100, 3599, 3599, 3599, 3599, 0};
        desk.fresh(EDGES);
        for (int thing = 0; thing < 12; thing++) {
            long stands = 0;
            long lacks = 0;
            for (int from = firsts[thing]; from <= lasts[thing]; from++) {
                stands += tills[thing] - from + 1;
                lacks += from + 3599 - tills[thing];
            }
            desk.anew();
            desk.picture("stands " + names[thing] + ";", 0);
            desk.picture("lacks " + names[thing] + ";", 1);
            desk.picture("stands " + names[thing] + ";lacks " + names[thing] + ";", 2);
            int days = lasts[thing] - firsts[thing] + 1;
            look(0, thing, 720 * stands, days);
            look(1, thing, 720 * lacks, days);
            look(2, thing, 0, days);
        }
        // Some of these, written out.
        desk.anew();
        desk.picture("stands ma;", 0);
        desk.picture("lacks ma;", 1);
        desk.picture("stands tc;", 2);
        desk.picture("lacks tc;", 3);
        desk.picture("stands w;", 4);
        desk.picture("lacks w;", 5);
        look(0, 0, 720L * 32355, 9);
        look(1, 0, 720L * 45, 9);
        look(2, 5, 720L * 210, 20);
        look(3, 5, 720L * 71790, 20);
        look(4, 11, 720, 1);
        look(5, 11, 720L * 3599, 1);
    }

    private static void lookJustThat() {
        desk.says("Terms, 2: LOOK: .. if it were just that (its \"till\" and other THINGS keep their GIVE)");
        desk.fresh("thing m from 100 give 2 till 110 give 3;thing n from 105 give 1;thing o from 100 give 10 till 200 give 5;clock c slow 4 fast 0;");
        desk.picture("stands m;", 0);
        desk.picture("lacks m;", 1);
        desk.picture("stands m;lacks m;", 2);
        desk.picture("stands n;stands o;", 3);
        desk.picture("stands n;lacks m;clock c 5;year 0;", 4);
        desk.picture("stands m;year 1;", 5);
        // From each of 98 to 102 to 113; to 97 and more, and from 108 on; 108 to 113.
        look(0, 0, 720L * (16 + 15 + 14 + 13 + 12), 5);
        look(1, 0, 720L * (500 + 5 * 3492), 5);
        look(2, 0, 720L * 30, 5);
        // n from 104, 105 or 106 to 205; o from each of 90 to 110, n from 104.
        look(3, 1, 720L * (102 + 101 + 100), 3);
        look(3, 2, 720L * (15 * 102 + 101 + 100 + 99 + 98 + 97 + 96), 21);
        // m lacks to 101 and from 108 on; n stands from 104 on: 108 to 359.
        look(4, 1, 5L * 3 * 252, 3);
        look(4, 0, 5L * 5 * 252, 5);
        // No MOMENTS are no NONE.
        look(5, 0, 0, 5);
        // "till" less its GIVE is ahead of "from": it lacks on each DAY.
        desk.fresh("thing m from 100 give 2 till 101 give 50;thing n from 100 give 2 till 101 give 2;thing o from 0 give 1 till 5 give 9;");
        desk.picture("lacks m;", 0);
        desk.picture("lacks n;", 1);
        desk.picture("lacks o;year 0;", 2);
        look(0, 0, 720L * 3600 * 4, 4);
        // From 98: 98 and 99 are barred; from 99: 99; from 100 and 101: none.
        look(1, 1, 720L * (3600 * 4 - 3), 4);
        look(2, 2, 720L * 360 * 2, 2);
        // Of a to 30 and weekday 3 there are 3, 10, 17 and 24.
        desk.fresh("thing a from 0 till 30;thing m from 10 give 1;");
        desk.picture("stands a;week 3;stands m;", 0);
        look(0, 1, 720L * (3 + 3 + 2), 3);
    }

    private static void lookByMonths() {
        desk.says("Terms, 2: LOOK: .. how many MOMENTS of ALL (each MONTH's DAYS with its own MINUTES)");
        // MONTH 0 has a MINUTE a DAY, MONTH 1 two, MONTH 10 none, MONTH 11 three.
        desk.fresh("post p 10 10 10;sun 0 5 east 0 north 0;sun 1 5 east 0 north 0;sun 1 6 east 0 north 0;sun 10 5 east 1 north 0;sun 11 5 east 0 north 0;"
            + "sun 11 7 east 0 north 0;thing a from 28 give 2 till 31;thing b from 690 give 1 till 690;thing c from 3598 give 9;thing d from 1080 give 1 till 1081;"
            + "thing e from 30 give 30 till 59;");
        String shadow = "shadow p 10 10;";
        desk.picture("stands a;" + shadow, 0);
        desk.picture("stands b;" + shadow, 1);
        desk.picture("stands c;" + shadow, 2);
        desk.picture("stands d;" + shadow, 3);
        desk.picture("stands e;" + shadow, 4);
        desk.picture("lacks e;year 0;" + shadow, 5);
        // From 26 to 30: 4, 3, 2, 1, 0 DAYS of MONTH 0 and two, two, two, two, two of MONTH 1.
        look(0, 0, 4 + 3 + 2 + 1 + 5 * 4, 5);
        // From 689: 690 alone; from 690: 690.
        look(1, 1, 6, 2);
        look(2, 2, 3 * (1 + 2 + 3 + 4 + 5 + 6 + 7 + 8 + 9 + 10 + 11), 11);
        // From 1079: 3, 1, 1; from 1080: 1, 1; from 1081: 1.
        look(3, 3, 5 + 2 + 1, 3);
        // From 0 to 29: 30 to 1 of MONTH 0 and 30 times two; from 30 to 59: 30 to 1 times two.
        look(4, 4, 465 + 30 * 60 + 2 * 465, 60);
        // Ahead of 0 to 29, of 30 to 59; and what is left of the YEAR: eight MONTHS in full, one with none, one with three a DAY.
        look(5, 4, 435 + 30 * 30 + 2 * 435 + 60 * (8 * 30 * 720 + 90), 60);
    }

    private static void lookInAnyOrder() {
        desk.says("Terms, 2: LOOK: .. of ALL (of each SIGN that names the THING, in whatever order they are)");
        desk.fresh("thing m from 100 give 2 till 110 give 3;thing n from 100 give 1;");
        String[] both = {"stands m;lacks m;", "lacks m;stands m;", "week 3;lacks m;lacks n;stands m;", "stands m;stands m;lacks m;", "lacks m;lacks m;stands m;"};
        int[] due = {30, 30, 0, 30, 30};
        for (int i = 0; i < both.length; i++) {
            desk.picture(both[i], i);
            look(i, 0, 720L * due[i], 5);
        }
        desk.picture("lacks n;stands n;", 5);
        look(5, 1, 0, 3);
        desk.picture("lacks m;lacks m;", 6);
        look(6, 0, 720L * (500 + 5 * 3492), 5);
        desk.picture("stands m;stands m;", 7);
        look(7, 0, 720L * 70, 5);
    }

    private static void lookWithoutGive() {
        desk.says("Terms, 2: LOOK of a THING (with \"give\" behind \"from\"). Promise 22: NONE: .. its \"from\" has no GIVE (or 0).");
        x = desk.fresh("thing a from 50;thing b from 50 give 0;thing c from 50 give 1;thing d from 50 till 90 give 9;thing e from 50 give 0 till 90 give 9;"
            + "thing f from 50 give 1 till 90;");
        desk.picture("stands a;stands b;lacks c;", 0);
        int[] due = {-1, -1, 3, -1, -1, 3};
        for (int thing = 0; thing < 6; thing++) {
            desk.due("look " + thing + ": days", x.look(0, thing, 1), due[thing]);
            desk.due("look " + thing, x.look(0, thing, 0) >= 0, due[thing] > 0);
            desk.due("look " + thing + " 2", x.look(0, thing, 2), -1);
        }
    }

    private static void lookNone() {
        desk.says("Promise 22: LOOK: MOMENTS together (what 0), DAYS (1). NONE: none such");
        x = desk.fresh();
        desk.due("no picture at all", x.look(0, 0, 0), -1);
        desk.picture("week 1;", 0);
        desk.due("no thing at all", x.look(0, 0, 0), -1);
        x = desk.fresh("thing a from 50 give 1;thing b from 50 give 2;");
        desk.picture("week 1;", 0);
        desk.picture("week 2;", 1);
        desk.due("the first thing", x.look(0, 0, 1), 3);
        desk.due("the last thing of the last picture", x.look(1, 1, 1), 5);
        for (int what = 0; what < 2; what++) {
            for (int thing : new int[] {-1, 2, 11, 12, Integer.MIN_VALUE, Integer.MAX_VALUE}) {
                desk.due("no such thing " + thing, x.look(0, thing, what), -1);
            }
            for (int picture : NO_PICTURES) {
                desk.due("no such picture " + picture, x.look(picture, 0, what), -1);
            }
        }
        for (int what : new int[] {-1, 2, 3, Integer.MIN_VALUE, Integer.MAX_VALUE}) {
            desk.due("no such what " + what, x.look(0, 0, what), -1);
        }
    }

    private static void next(String picture, int due) {
        desk.anew();
        desk.picture(picture, 0);
        x = desk.now();
        desk.due("next of " + picture, x.next(0), due);
    }

    private static void nextLeast() {
        desk.says("Terms, 2: NEXT: the THING whose LOOK is least (MOMENTS together by how many DAYS these are)");
        desk.fresh("thing a from 100 give 1 till 200;thing b from 150 give 50 till 200;thing c from 1000 give 1;thing d from 1005 give 1 till 1009;"
            + "thing e from 1000 give 30 till 1020;thing f from 2000 give 2;");
        // a: 302 by 3, b: 5,151 by 101. So it's not the one with the fewest MOMENTS together.
        next("stands a;stands b;", 1);
        next("stands b;stands a;", 1);
        look(0, 0, 720L * 302, 3);
        look(0, 1, 720L * 5151, 101);
        // d: from 1004 to 1006 it's 6, 5, 4; e: from 970 to 1020 (d from 1004 to 1009) 35 times 6, then 5, 4, 3, 2, 1 and eleven times 0.
        next("stands d;stands e;", 4);
        look(0, 3, 720L * 15, 3);
        look(0, 4, 720L * (35 * 6 + 5 + 4 + 3 + 2 + 1), 51);
        // 6 by 3 is less than 8 by 3, not just as whole numbers.
        desk.fresh("thing b from 99 give 1;thing a from 100 give 1 till 101;clock c slow 0 fast 0;");
        next("stands a;stands b;clock c 5;", 1);
        look(0, 0, 8, 3);
        look(0, 1, 6, 3);
        desk.fresh("thing a from 100 give 1 till 200;thing b from 150 give 50 till 200;thing c from 1000 give 1;thing d from 1005 give 1 till 1009;"
            + "thing e from 1000 give 30 till 1020;thing f from 2000 give 2;");
        // No MOMENTS at all are the least.
        next("stands a;stands c;", 0);
        look(0, 0, 0, 3);
        next("stands f;lacks f;", 5);
        next("stands f;", 5);
    }

    private static void nextOfSeveral() {
        desk.says("Terms, 2: NEXT: .. (of several the least)");
        // All four stand in year 5 for sure: 360 DAYS each, of three DAYS, of five, of three, of seven.
        desk.fresh("thing d from 500 give 2;thing c from 500 give 1;thing b from 600 give 1;thing a from 500 give 3;");
        next("stands c;stands d;stands a;stands b;year 5;", 0);
        next("stands a;stands b;stands c;year 5;", 1);
        next("stands a;stands b;year 5;", 2);
        next("stands a;year 5;", 3);
        next("stands a;year 5;stands a;stands d;", 0);
        next("lacks a;stands b;year 5;", 2);
        next("lacks b;lacks a;year 5;", 2);
        // A DAY more or less.
        desk.fresh("thing a from 500 give 2;thing b from 501 give 2;thing c from 501 give 2;");
        next("stands a;", 0);
        next("lacks b;lacks c;", 1);
        next("lacks c;lacks b;", 1);
    }

    private static void nextNamed() {
        desk.says("Terms, 2: NEXT: .. of those that some SIGN of the PICTURE names.");
        StringBuilder town = new StringBuilder("tree e leaf 0 bare 100;post p 1 1 1;post q 2 2 2;clock c slow 1 fast 1;");
        for (int i = 0; i < 12; i++) {
            town.append("thing x").append((char) ('a' + i)).append(" from ").append(1000 + i).append(" give 5;");
        }
        desk.fresh(town.toString());
        for (int i = 0; i < 12; i++) {
            next("stands x" + (char) ('a' + i) + ";", i);
            next("lacks x" + (char) ('a' + i) + ";", i);
            next("week 3;year 5;stands x" + (char) ('a' + i) + ";", i);
        }
        // Trees, posts, clocks and numbers are none.
        next("leaf e;bare e;shadow p 1 1;clock c 5;week 0;year 0;before p q;left p q;", -1);
        next("leaf e;shadow p 1 1;clock c 5;week 1;year 1;before q p;left q p;stands xl;", 11);
        // Twelve SIGNS, the last one, too.
        next("week 1;".repeat(11) + "lacks xf;", 5);
    }

    private static void nextNone() {
        desk.says("Promise 23: NEXT. NONE: none, none such.");
        x = desk.fresh("thing a from 50;thing b from 50 give 0 till 60 give 9;thing c from 50 give 1;");
        desk.due("no picture at all", x.next(0), -1);
        desk.picture("week 1;", 0);
        desk.picture("stands a;lacks b;", 1);
        desk.due("names none", x.next(0), -1);
        desk.due("names none with a GIVE", x.next(1), -1);
        for (int picture : NO_PICTURES) {
            desk.due("no such picture " + picture, x.next(picture), -1);
        }
        desk.more(1, "lacks c;", 3);
        desk.due("names one", x.next(1), 2);
        desk.picture("lacks c;", 2);
        desk.due("the last picture", x.next(2), 2);
    }

    private static void cloud(int set, int many, int first, int most) {
        desk.due("cloud " + set, x.cloud(set, 0), many);
        desk.due("cloud " + set + ": the first", x.cloud(set, 1), first);
        desk.due("cloud " + set + ": the most", x.cloud(set, 2), most);
    }

    private static void cloudOfOne() {
        desk.says("Terms, 2: CLOUD of PICTURES (bits): how many MOMENTS all of them have");
        x = desk.fresh("post p 1 1 1;clock c slow 0 fast 0;thing o from 3599;");
        desk.picture("shadow p 1 1;", 0);
        desk.picture("clock c 0;year 0;", 1);
        desk.picture("stands o;clock c 719;", 2);
        desk.picture("year 0;", 3);
        desk.picture("year 0;week 0;", 4);
        desk.picture("clock c 1;year 0;", 5);
        desk.picture("week 6;", 6);
        desk.picture("year 1;year 2;", 7);
        cloud(1, 2592000, 0, 1);
        cloud(2, 360, 0, 2);
        cloud(4, 1, 2591999, 4);
        cloud(8, 360 * 720, 0, 8);
        cloud(64, 514 * 720, 6 * 720, 64);
        cloud(128, 0, -1, 0);
        cloud(1 + 2, 360, 0, 3);
        cloud(1 + 4, 1, 2591999, 5);
        cloud(2 + 8 + 16, 52, 0, 26);
        cloud(8 + 32, 360, 1, 40);
        cloud(8 + 64, 51 * 720, 6 * 720, 72);
        cloud(1 + 8 + 32 + 64, 51, 6 * 720 + 1, 105);
        cloud(2 + 32, 0, -1, 2);
    }

    private static void cloudFirst() {
        desk.says("Promise 24: the first MOMENT: 720 times its DAY and its MINUTE (1; NONE)");
        // In MONTH 0 the one has MINUTE 100, the other 101, in MONTH 1 both have 200 to 205.
        x = desk.fresh("post p 10 10 10;sun 0 100 east 0 north 0;sun 0 101 east 1 north 0;sun 1 200 east 0 north 0;sun 1 205 east 0 north 0;"
            + "post q 9 10 10;clock c slow 0 fast 0;");
        desk.picture("shadow p 10 10;", 0);
        desk.picture("shadow q 10 10;", 1);
        desk.picture("shadow q 9 10;week 0;", 2);
        desk.picture("clock c 204;", 3);
        desk.picture("clock c 719;week 0;", 4);
        desk.due("of the first", x.cloud(1, 1), 100);
        desk.due("of the second", x.cloud(2, 1), 101);
        desk.due("of both", x.cloud(3, 1), 60 * 720);
        desk.due("of the first and third", x.cloud(5, 1), 100);
        desk.due("of the second and third", x.cloud(6, 1), 63 * 720);
        desk.due("at a minute", x.cloud(1 + 4 + 8, 1), 35 * 720 + 204);
        desk.due("at another", x.cloud(1 + 8, 1), 30 * 720 + 204);
        desk.due("at the last", x.cloud(1 + 16, 1), 63 * 720 + 719);
        desk.due("never", x.cloud(8 + 16, 1), -1);
        desk.due("never of all", x.cloud(31, 1), -1);
        desk.due("how many never", x.cloud(31, 0), 0);
    }

    private static void cloudByMonths() {
        desk.says("Promise 24: how many (what 0), the first MOMENT (1) (each MONTH's DAYS with its own MINUTES)");
        // Both have a MINUTE in common in MONTH 0, two in MONTH 11, and none in the others.
        StringBuilder suns = new StringBuilder("post p 10 10 10;post q 11 10 10;sun 0 7 east 0 north 0;sun 11 8 east 0 north 0;sun 11 9 east 0 north 0;");
        for (int month = 1; month < 11; month++) {
            suns.append("sun ").append(month).append(" 3 east 9 north 9;");
        }
        x = desk.fresh(suns + "thing a from 29;thing b from 30;thing c from 330;thing d from 359;thing e from 3570;");
        desk.picture("shadow p 10 10;", 0);
        desk.picture("shadow q 11 10;stands a;", 1);
        desk.picture("stands b;", 2);
        desk.picture("stands c;", 3);
        desk.picture("stands d;year 0;", 4);
        desk.picture("stands e;", 5);
        cloud(1, 10 * (30 + 60), 7, 1);
        cloud(2, 271 + 600, 29 * 720 + 7, 2);
        cloud(3, 271 + 600, 29 * 720 + 7, 3);
        cloud(1 + 4, 270 + 600, 330 * 720 + 8, 5);
        cloud(3 + 8, 270 + 600, 330 * 720 + 8, 11);
        cloud(1 + 16, 2, 359 * 720 + 8, 17);
        cloud(3 + 32, 60, 3570 * 720 + 8, 35);
        cloud(63 - 16, 60, 3570 * 720 + 8, 47);
        cloud(63, 0, -1, 31);
    }

    private static void cloudMost() {
        desk.says("Terms, 2: CLOUD: .. the most of them that have one. Promise 24: the most PICTURES (2; 0: none has one)");
        x = desk.fresh("thing n from 0;");
        String[] pictures = {"year 1;", "year 2;", "year 1;week 1;", "lacks n;", "year 3;week 1;", "week 1;", "year 1;", "lacks n;year 1;"};
        for (int i = 0; i < 8; i++) {
            desk.picture(pictures[i], i);
        }
        int[][] due = {{1, 1}, {8, 0}, {128, 0}, {8 + 128, 0}, {1 + 2, 1}, {1 + 4, 5}, {2 + 4 + 1, 5}, {1 + 8, 1}, {8 + 2, 2}, {16 + 32, 48}, {1 + 4 + 32 + 64, 101},
            {255, 101}, {255 - 64, 37}, {2 + 32, 34}, {2 + 16 + 8, 2}, {16 + 8 + 128, 16}};
        for (int[] d : due) {
            desk.due("the most of " + d[0], x.cloud(d[0], 2), d[1]);
        }
    }

    private static void cloudLeastBits() {
        desk.says("Terms, 2: CLOUD: .. (of as many the least bits)");
        x = desk.fresh();
        String[] pictures = {"year 1;", "year 2;", "year 2;week 2;", "year 1;week 1;", "year 3;", "year 3;", "year 3;", "year 4;"};
        for (int i = 0; i < 8; i++) {
            desk.picture(pictures[i], i);
        }
        // Of 6 and 9 the least is 6.
        int[][] due = {{15, 6}, {13, 9}, {7, 6}, {11, 9}, {3, 1}, {3 + 128, 1}, {2 + 128, 2}, {255, 112}, {255 - 16, 6}, {16 + 32 + 3, 48}, {1 + 64 + 128, 1}};
        for (int[] d : due) {
            desk.due("the most of " + d[0], x.cloud(d[0], 2), d[1]);
        }
    }

    private static void cloudNone() {
        desk.says("Promise 24: NONE: none such (no PICTURES, one that isn't told).");
        x = desk.fresh();
        for (int what = 0; what < 3; what++) {
            desk.due("no picture at all", x.cloud(1, what), -1);
            desk.due("no pictures", x.cloud(0, what), -1);
        }
        for (int n = 1; n <= 8; n++) {
            desk.picture("week 1;", n - 1);
            for (int what = 0; what < 3; what++) {
                desk.due("all " + n, x.cloud((1 << n) - 1, what) > 0, true);
                desk.due("the last one", x.cloud(1 << n - 1, what) > 0, true);
                desk.due("no pictures", x.cloud(0, what), -1);
                desk.due("one that isn't told", x.cloud(1 << n, what), -1);
                desk.due("one that isn't told with one that is", x.cloud((1 << n) + 1, what), -1);
            }
        }
        for (int set : new int[] {-1, -2, -256, 256, 257, 511, 1 << 16, 1 << 30, Integer.MIN_VALUE, Integer.MIN_VALUE + 1, Integer.MAX_VALUE}) {
            desk.due("none such " + set, x.cloud(set, 0), -1);
            desk.due("none such " + set, x.cloud(set, 2), -1);
        }
        for (int what : new int[] {-1, 3, 4, Integer.MIN_VALUE, Integer.MAX_VALUE}) {
            desk.due("no such what " + what, x.cloud(255, what), -1);
        }
    }

    private static void askedChangesNothing() {
        desk.says("Promises 19 to 24: (to ask changes nothing)");
        x = desk.fresh("thing m from 100 give 3 till 200 give 5;thing n from 150 give 2;");
        desk.picture("stands m;lacks n;", 0);
        desk.picture("stands m;", 1);
        desk.keep();
        desk.due("couples", x.couples(0, 1, 0, 0, 1), 55);
        desk.due("likely", x.likely(0, 0), 97);
        desk.due("look", x.look(0, 0, 1), 7);
        desk.due("look", x.look(0, 1, 1), 5);
        desk.due("next", x.next(0), 0);
        desk.due("cloud", x.cloud(3, 2), 3);
        desk.same("to ask");
        desk.due("from less its give", x.lets(0, 0, 97, 0), 1);
        desk.due("from and its give", x.lets(0, 1, 151, 0), 1);
        desk.due("look again", x.look(0, 0, 1), 7);
    }
}
