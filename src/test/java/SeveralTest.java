/** Promises 19 to 24: couples, weights, the likeliest day, looks, and clouds of pictures. */
public final class SeveralTest {
    private static final Desk desk = new Desk("SeveralTest");
    private static PlateDay x;

    public static void main(String[] args) {
        couplesOfClocks();
        couplesOfAll();
        noCouples();
        weights();
        likeliest();
        likeliestFew();
        likeliestMinutes();
        looks();
        looksAtTheEdges();
        looksOfBoth();
        noLooks();
        nextThing();
        clouds();
        cloudMoments();
        noClouds();
        desk.close();
    }

    private static void couples(int one, int other, int a, int b, long many, long days, long first) {
        String what = "couples " + one + " " + other + " " + a + " " + b;
        desk.due(what, x.couples(one, other, a, b, 0), many);
        desk.due(what + " days", x.couples(one, other, a, b, 1), days);
        desk.due(what + " first", x.couples(one, other, a, b, 2), first);
    }

    private static void couplesOfClocks() {
        x = desk.fresh("clock c slow 0 fast 0;clock d slow 2 fast 1;post p 10 10 10;sun 1 300 east 0 north 0;");
        desk.picture("clock c 300;year 1;", 0);
        desk.picture("clock d 310;week 3;", 1);
        // Minutes 309 to 312 on the 3rd weekdays of year 1, days 360 (weekday 3) to 717: 52.
        couples(0, 1, 9, 12, 4 * 52, 52, 360);
        couples(0, 1, 10, 11, 2 * 52, 52, 360);
        couples(0, 1, 12, 719, 52, 52, 360);
        couples(0, 1, 13, 719, 0, 0, -1);
        couples(0, 1, -719, 8, 0, 0, -1);
        couples(0, 1, -719, 9, 52, 52, 360);
        couples(1, 0, -12, -9, 4 * 52, 52, 360);
        couples(1, 0, -9, -9, 52, 52, 360);
        couples(1, 0, 9, 12, 0, 0, -1);
        couples(0, 0, 0, 0, 360, 360, 360);
        couples(1, 1, 0, 0, 4 * 514, 514, 3);
        couples(1, 1, 1, 1, 3 * 514, 514, 3);
        couples(1, 1, -3, 3, 16 * 514, 514, 3);
        // Month 1 has a shadow at minute 300 alone, and it falls elsewhere: no such days.
        desk.picture("shadow p 10 11;year 1;", 2);
        couples(2, 0, 0, 0, 330, 330, 360);
        desk.picture("shadow p 10 10;year 1;", 3);
        couples(3, 0, 0, 0, 360, 360, 360);
        couples(3, 0, 1, 1, 330, 330, 360);
        couples(0, 3, 1, 1, 330, 330, 360);
        couples(0, 3, -300, 419, 330 * 720 + 30, 360, 360);
    }

    private static void couplesOfAll() {
        x = desk.fresh("clock c slow 0 fast 0;");
        desk.picture("year 1;year 1;", 0);
        desk.picture("week 0;", 1);
        desk.picture("year 2;", 2);
        desk.picture("clock c 0;", 3);
        desk.picture("clock c 719;", 4);
        couples(0, 2, -719, 719, 0, 0, -1);
        couples(0, 0, -719, 719, 720L * 720 * 360, 360, 360);
        couples(1, 1, -719, 719, 720L * 720 * 515, 515, 0);
        couples(1, 0, 0, 719, 720L * 721 / 2 * 51, 51, 364);
        couples(1, 0, 1, 719, 719L * 720 / 2 * 51, 51, 364);
        couples(1, 0, 719, 719, 51, 51, 364);
        couples(1, 0, -719, -719, 51, 51, 364);
        couples(3, 4, 719, 719, 3600, 3600, 0);
        couples(3, 4, -719, 718, 0, 0, -1);
        couples(4, 3, -719, -719, 3600, 3600, 0);
        desk.picture("year 9;", 5);
        couples(5, 4, -719, 0, 360, 360, 3240);
        couples(5, 4, -719, -1, 0, 0, -1);
        couples(5, 4, 0, 719, 360 * 720, 360, 3240);
        // More than an int holds: each couple of minutes on each day.
        x = desk.fresh("post p 1 1 1;post q 2 2 2;");
        desk.picture("left p q;", 0);
        couples(0, 0, -719, 719, 720L * 720 * 3600, 3600, 0);
        couples(0, 0, -719, 718, (720L * 720 - 1) * 3600, 3600, 0);
    }

    private static void noCouples() {
        x = desk.fresh();
        desk.picture("year 1;", 0);
        desk.picture("year 1;", 1);
        int[][] wrong = {{-1, 1, 0, 0, 0}, {2, 1, 0, 0, 0}, {0, -1, 0, 0, 0}, {0, 2, 0, 0, 0}, {0, 1, 1, 0, 0}, {0, 1, -720, 0, 0},
            {0, 1, 0, 720, 0}, {0, 1, 720, 720, 0}, {0, 1, -720, -720, 0}, {0, 1, 0, 0, -1}, {0, 1, 0, 0, 3},
            {0, 1, Integer.MIN_VALUE, Integer.MAX_VALUE, 0}, {0, 1, 719, -719, 1}};
        for (int[] w : wrong) {
            desk.due("couples none such", x.couples(w[0], w[1], w[2], w[3], w[4]), -1);
        }
    }

    private static void weights() {
        x = desk.fresh();
        for (int month = 0; month < 12; month++) {
            desk.due("weight " + month, x.weight(month, 99 - month), true);
            desk.due("count of " + month, x.count(10 + month), 99 - month);
        }
        desk.due("month -1", x.weight(-1, 5), false);
        desk.due("month 12", x.weight(12, 5), false);
        desk.due("weight -1", x.weight(0, -1), false);
        desk.due("weight 100", x.weight(0, 100), false);
        desk.due("wide", x.weight(Integer.MIN_VALUE, Integer.MAX_VALUE), false);
        desk.due("as it was", x.count(10), 99);
        desk.due("weight 0", x.weight(0, 0), true);
        desk.due("is told", x.count(10), 0);
    }

    private static void likely(int picture, long day, long upper, long lower) {
        desk.due("likely " + picture, x.likely(picture, 0), day);
        desk.due("share's upper number", x.likely(picture, 1), upper);
        desk.due("share's lower number", x.likely(picture, 2), lower);
        desk.due("likely 3", x.likely(picture, 3), -1);
        desk.due("likely -1", x.likely(picture, -1), -1);
    }

    private static void likeliest() {
        x = desk.fresh("thing m from 25 till 34;thing n from 3599;");
        desk.picture("stands m;", 0);
        desk.picture("stands n;", 1);
        desk.picture("year 1;year 2;", 2);
        likely(0, 25, 1, 10);
        likely(1, 3599, 1, 1);
        likely(2, -1, -1, -1);
        // Five days of month 0 and five of month 1.
        x.weight(1, 3);
        likely(0, 30, 3, 20);
        x.weight(0, 3);
        likely(0, 25, 1, 10);
        x.weight(0, 6);
        x.weight(1, 4);
        likely(0, 25, 3, 25);
        x.weight(0, 0);
        likely(0, 30, 1, 5);
        x.weight(1, 0);
        likely(0, -1, -1, -1);
        likely(1, 3599, 1, 1);
        x.weight(11, 99);
        likely(1, 3599, 1, 1);
        x.weight(11, 0);
        likely(1, -1, -1, -1);
        desk.due("no such picture", x.likely(3, 0), -1);
        desk.due("no such picture", x.likely(-1, 1), -1);
    }

    private static void likeliestFew() {
        x = desk.fresh("clock d slow 0 fast 0;thing n from 3599;");
        desk.picture("clock d 5;week 1;", 0);
        desk.picture("clock d 5;stands n;", 1);
        likely(0, 1, 1, 515);
        likely(1, 3599, 1, 1);
        // Days 1 and 8, 15, 22, 29 of each year's month 0 and its like weigh nothing: 36 is the first of month 1.
        x.weight(0, 0);
        desk.due("the first that weighs", x.likely(0, 0), 36);
    }

    private static void likeliestMinutes() {
        x = desk.fresh("post p 10 10 10;sun 3 100 east 0 north 0;sun 3 200 east 10 north 0;sun 4 0 east 0 north 0;sun 4 719 east 0 north 0;");
        desk.picture("shadow p 10 10;year 4;", 0);
        // Month 3 has one minute a day, the others have 720.
        likelyOf(0, 1440, 720, 720 * 330 + 30);
        for (int month = 0; month < 12; month++) {
            x.weight(month, month == 3 || month == 4 ? 1 : 0);
        }
        likely(0, 1440 + 120, 24, 721);
        x.weight(3, 99);
        likelyOf(0, 1440 + 120, 720, 30 * 819);
    }

    private static void likelyOf(int picture, long day, int upper, int lower) {
        int a = upper;
        int b = lower;
        while (b != 0) {
            int rest = a % b;
            a = b;
            b = rest;
        }
        likely(picture, day, upper / a, lower / a);
    }

    private static void look(int picture, int thing, long together, long days) {
        desk.due("look " + picture + " " + thing, x.look(picture, thing, 0), together);
        desk.due("days of look " + picture + " " + thing, x.look(picture, thing, 1), days);
        desk.due("look 2", x.look(picture, thing, 2), -1);
        desk.due("look -1", x.look(picture, thing, -1), -1);
    }

    private static void looks() {
        x = desk.fresh("thing m from 100 give 10 till 200 give 5;thing n from 150 give 1;thing o from 190 give 20 till 195 give 9;");
        desk.picture("stands m;", 0);
        desk.picture("lacks m;", 1);
        desk.picture("stands n;lacks m;", 2);
        desk.picture("year 3;", 3);
        desk.picture("stands o;stands n;", 4);
        // stands: from each of 90 to 110 to 205.
        look(0, 0, 720L * 21 * (205 - 100 + 1), 21);
        // lacks: all but from it to 195.
        look(1, 0, 720L * 21 * (3600 - (195 - 100 + 1)), 21);
        // From 149, 150 or 151 on, but for those to 195 (with m's give: lacks to 109, which is ahead).
        look(2, 1, 720L * 3 * (3600 - 196), 3);
        look(2, 0, 720L * 21 * (3600 - 196), 21);
        // Not named: each day leaves all.
        look(3, 0, 720L * 360 * 21, 21);
        look(3, 1, 720L * 360 * 3, 3);
        // 170 to 195 is 26 days, "till" at most; stands to 204.
        look(4, 2, 720L * sum(9, 35 - 1), 26);
        look(4, 1, 720L * 3 * (204 - 170 + 1), 3);
    }

    private static long sum(int first, int last) {
        long sum = 0;
        for (int i = first; i <= last; i++) {
            sum += i + 1;
        }
        return sum;
    }

    private static void looksAtTheEdges() {
        x = desk.fresh("thing m from 5 give 9;thing n from 3595 give 9;thing o from 7 give 99 till 7;thing w from 0 give 1 till 5 give 9;");
        desk.picture("lacks m;", 0);
        desk.picture("stands n;", 1);
        desk.picture("stands o;", 2);
        desk.picture("lacks n;year 9;", 3);
        desk.picture("lacks w;year 0;", 4);
        // 0 to 14: lacks leaves the days ahead.
        look(0, 0, 720L * 14 * 15 / 2, 15);
        // 3586 to 3599, the last day.
        look(1, 1, 720L * 14 * 15 / 2, 14);
        look(2, 2, 720L * 8 * 9 / 2, 8);
        // Ahead of 3586 there are 346 days of year 9.
        look(3, 1, 720L * (14 * 346 + 13 * 14 / 2), 14);
        // Till less its give is below 0: it may be gone each day.
        look(4, 3, 720L * 360 * 2, 2);
    }

    private static void looksOfBoth() {
        x = desk.fresh("thing m from 100 give 2 till 110 give 3;thing n from 100 give 2;clock c slow 0 fast 0;");
        desk.picture("stands m;lacks m;", 0);
        desk.picture("stands n;lacks n;", 1);
        desk.picture("lacks m;lacks m;clock c 5;year 0;stands n;", 2);
        // Told to the day it stands, and lacks from 108 to 113.
        look(0, 0, 720L * 6 * 5, 5);
        look(1, 1, 0, 5);
        // n stands from 98 on; m lacks ahead of its day (98 to 102), and from 108 on: 252 days of year 0. n's day is 98 to 102, too.
        look(2, 0, 5L * 252 + 0 + 1 + 2 + 3 + 4, 5);
        look(2, 1, 5L * 252 + 4 + 3 + 2 + 1 + 0, 5);
    }

    private static void noLooks() {
        x = desk.fresh("thing m from 100;thing n from 100 give 0;thing o from 100 give 1;thing w from 1 till 5 give 5;");
        desk.picture("stands m;", 0);
        for (int what = 0; what < 2; what++) {
            desk.due("without give", x.look(0, 0, what), -1);
            desk.due("give 0", x.look(0, 1, what), -1);
            desk.due("just its till's", x.look(0, 3, what), -1);
            desk.due("no such thing", x.look(0, 4, what), -1);
            desk.due("no such thing", x.look(0, -1, what), -1);
            desk.due("no such picture", x.look(1, 2, what), -1);
            desk.due("no such picture", x.look(-1, 2, what), -1);
        }
        look(0, 2, 720L * 3500 * 3, 3);
    }

    private static void nextThing() {
        x = desk.fresh("thing m from 100 give 10;thing n from 100 give 20 till 300;thing o from 100 give 9 till 300;thing p from 100;"
            + "thing q from 100 give 5 till 300;thing r from 100 give 4 till 300;");
        String[] pictures = {"week 1;", "stands p;", "stands m;", "stands m;stands p;", "lacks n;stands m;lacks o;", "stands m;stands n;",
            "stands q;stands r;lacks o;", "stands r;stands q;year 3;"};
        // In 4: m is left 3299 days and 190 / 21 of one, n 399 / 41, o 190 / 19. In 6: q 98 / 11, r 81 / 9, o 91 / 19.
        int[] due = {-1, -1, 0, 0, 0, 1, 2, 4};
        for (int i = 0; i < pictures.length; i++) {
            desk.picture(pictures[i], i);
            desk.due("next of " + pictures[i], x.next(i), due[i]);
        }
        look(4, 0, 720L * (21 * 3299 + 190), 21);
        look(4, 1, 720L * (41 * 3299 + 399), 41);
        look(4, 2, 720L * (19 * 3299 + 190), 19);
        look(6, 4, 720L * 98, 11);
        look(6, 5, 720L * 81, 9);
        look(6, 2, 720L * 91, 19);
        desk.due("no such picture", x.next(8), -1);
        desk.due("no such picture", x.next(-1), -1);

        // By how many days: n's look has more moments together than m's, but on more days.
        x = desk.fresh("thing m from 100 give 1 till 200;thing n from 150 give 50 till 200;thing o from 200 give 1 till 201;"
            + "thing p from 500 give 3;thing q from 500 give 3;");
        desk.picture("stands m;stands n;", 0);
        look(0, 0, 720L * (101 + 101 + 100), 3);
        look(0, 1, 720L * (101 * 102 / 2), 101);
        desk.due("n's is less a day", x.next(0), 1);
        desk.picture("stands o;lacks n;", 1);
        look(1, 1, 720L * 102, 101);
        look(1, 2, 720L * (2 + 1 + 1), 3);
        desk.due("n's is less again", x.next(1), 1);
        desk.picture("stands q;stands p;", 2);
        desk.due("of two alike the least", x.next(2), 3);
        desk.picture("stands q;", 3);
        desk.due("just the named one", x.next(3), 4);
    }

    private static void clouds() {
        x = desk.fresh("thing m from 100 till 110;clock c slow 2 fast 0;clock d slow 0 fast 0;");
        desk.picture("stands m;", 0);
        desk.picture("week 2;", 1);
        desk.picture("year 1;", 2);
        desk.picture("clock c 300;year 0;", 3);
        desk.picture("clock d 301;", 4);
        desk.picture("year 4;year 5;", 5);
        // 100 and 107 are 2nd weekdays.
        cloud(1, 11 * 720, 100 * 720, 1);
        cloud(3, 2 * 720, 100 * 720, 3);
        cloud(8, 360 * 3, 300, 8);
        cloud(2 + 8, 52 * 3, 2 * 720 + 300, 10);
        cloud(2 + 8 + 16, 52, 2 * 720 + 301, 26);
        cloud(1 + 2 + 8 + 16, 2, 100 * 720 + 301, 27);
        // Year 1 goes with neither m nor the clock of year 0.
        cloud(1 + 4, 0, -1, 1);
        cloud(4 + 8, 0, -1, 4);
        cloud(1 + 4 + 8, 0, -1, 9);
        cloud(4 + 2, 51 * 720, 361 * 720 + 720 * 5, 6);
        cloud(31, 0, -1, 27);
        cloud(32, 0, -1, 0);
        cloud(32 + 4, 0, -1, 4);
        cloud(63, 0, -1, 27);
    }

    private static void cloud(int set, int many, int first, int most) {
        desk.due("cloud " + set, x.cloud(set, 0), many);
        desk.due("first of " + set, x.cloud(set, 1), first);
        desk.due("most of " + set, x.cloud(set, 2), most);
        desk.due("cloud 3", x.cloud(set, 3), -1);
        desk.due("cloud -1", x.cloud(set, -1), -1);
    }

    private static void cloudMoments() {
        // Two shadows: in month 0 each has minutes, but no common ones; in month 1 they have one.
        x = desk.fresh("post p 10 10 10;sun 0 100 east 0 north 0;sun 0 110 east 10 north 0;sun 1 200 east 0 north 0;sun 1 210 east 2 north 0;"
            + "clock c slow 0 fast 0;");
        desk.picture("shadow p 10 10;year 0;", 0);
        desk.picture("shadow p 12 10 give 1;year 0;", 1);
        // At 10: 100; 200. At 11 to 13: 101, 102, 103; 205 to 210.
        cloud(1, 30 + 30 + 300 * 720, 100, 1);
        cloud(2, 90 + 180 + 300 * 720, 101, 2);
        cloud(3, 300 * 720, 60 * 720, 3);
        desk.picture("clock c 719;year 9;", 2);
        cloud(4, 360, 3240 * 720 + 719, 4);
        for (int i = 3; i < 8; i++) {
            desk.picture("clock c 719;week 1;", i);
        }
        // 719 is a minute of year 0 for the shadows, too, where they have no rows.
        cloud(255, 0, -1, 251);
        cloud(252, 52, 3242 * 720 + 719, 252);
    }

    private static void noClouds() {
        x = desk.fresh();
        desk.due("none told", x.cloud(1, 0), -1);
        desk.picture("year 1;", 0);
        desk.picture("year 1;", 1);
        for (int set : new int[] {0, -1, 4, 5, 7, 256, 1 << 30, Integer.MIN_VALUE, Integer.MAX_VALUE}) {
            for (int what = 0; what < 3; what++) {
                desk.due("cloud none such " + set, x.cloud(set, what), -1);
            }
        }
        desk.due("both", x.cloud(3, 2), 3);
    }
}
