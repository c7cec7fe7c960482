/** Promises 15 to 18: quarrels, doubts, where the camera may have stood, and what outlasts its day. */
public final class SetTest {
    private static final Desk desk = new Desk("SetTest");
    private static PlateDay x;

    public static void main(String[] args) {
        quarrels();
        minutesQuarrel();
        onlyTogether();
        twelve();
        onePost();
        twoPosts();
        turnedOver();
        later();
        leastLater();
        none();
        desk.close();
    }

    private static void due(int picture, int quarrel, int doubt, int rivals) {
        desk.due("quarrel " + picture, x.quarrel(picture), quarrel);
        desk.due("doubt " + picture, x.doubt(picture, 0), doubt);
        desk.due("rivals " + picture, x.doubt(picture, 1), rivals);
    }

    private static void quarrels() {
        x = desk.fresh("thing m from 100 till 200;thing n from 0;");
        String[] pictures = {"week 1;", "week 1;year 1;", "year 1;year 2;", "year 1;year 1;year 2;", "year 1;year 2;year 2;",
            "week 1;year 3;year 4;stands m;", "lacks n;week 1;", "week 1;lacks n;year 5;"};
        // The quarrel has the least bits of as few signs, and so has the doubt.
        int[][] due = {{0, 0, 1}, {0, 0, 1}, {3, 1, 2}, {5, 4, 1}, {3, 1, 1},
            {6, 6, 3}, {1, 1, 1}, {2, 2, 1}};
        for (int i = 0; i < pictures.length; i++) {
            desk.picture(pictures[i], i);
            due(i, due[i][0], due[i][1], due[i][2]);
        }
        x = desk.fresh("thing m from 100 till 200 give 5;thing n from 206;thing o from 0;");
        desk.picture("stands m;stands n;", 0);
        due(0, 3, 1, 2);
        desk.picture("lacks o;", 1);
        due(1, 1, 1, 1);
        desk.picture("lacks o;lacks o;", 2);
        due(2, 1, 3, 1);
        x = desk.fresh("thing m from 100 till 200;");
        // 100 to 200 are in year 0: two signs are left at most, "stands" and "year 0" or the two "year 1".
        desk.picture("stands m;year 0;year 1;year 1;year 2;", 0);
        due(0, 5, 1 + 2 + 16, 2);
        desk.picture("week 3;week 3;week 4;week 5;week 5;", 1);
        due(1, 5, 7, 2);
    }

    private static void minutesQuarrel() {
        x = desk.fresh("clock c slow 5 fast 5;clock d slow 0 fast 0;post p 10 10 10;sun 0 100 east 0 north 0;sun 0 200 east 10 north 0;");
        desk.picture("clock c 100;clock d 105;clock d 110;", 0);
        due(0, 5, 4, 1);
        desk.picture("clock d 106;clock c 100;year 1;", 1);
        due(1, 3, 1, 2);
        // The shadow of month 0 is at 10 10 just at 100; in other months each minute will do.
        desk.picture("shadow p 10 10;clock d 101;", 2);
        due(2, 0, 0, 1);
        desk.picture("shadow p 20 10;clock d 200;shadow p 10 10;", 3);
        due(3, 0, 0, 1);
    }

    private static void onlyTogether() {
        // Each two of these can be, all three can't: tree and shadow leave month 0, whose shadow the clock bars.
        x = desk.fresh("tree e leaf 0 bare 30;clock c slow 0 fast 0;post p 10 10 10;sun 0 100 east 0 north 0;sun 0 200 east 10 north 0;");
        desk.picture("year 3;leaf e;clock c 101;shadow p 10 10;", 0);
        due(0, 14, 2, 3);
        desk.more(0, "week 1;clock c 100;", 6);
        // clock 101 and clock 100 are two alone; without clock 101 all the others can be.
        due(0, 4 + 32, 4, 1);
        desk.picture("leaf e;shadow p 10 11;", 1);
        due(1, 3, 1, 2);
    }

    private static void twelve() {
        x = desk.fresh();
        desk.picture("week 0;week 1;week 2;week 3;week 4;week 5;week 6;year 0;year 1;year 2;year 3;year 4;", 0);
        // One of seven and one of five are left: the least bits without are those that leave the highest ones.
        due(0, 3, 0b0111_1011_1111, 35);
        desk.picture("week 0;week 0;week 0;week 0;week 0;week 0;week 0;week 0;week 0;week 0;week 0;week 1;", 1);
        due(1, 0b1000_0000_0001, 0b1000_0000_0000, 1);
        desk.picture("week 0;week 0;week 0;week 0;week 0;week 0;week 0;week 0;week 0;week 0;week 0;week 0;", 2);
        due(2, 0, 0, 1);
    }

    private static void points(int picture, boolean over, int... points) {
        desk.due("points", x.stood(picture, over, -1), points.length);
        for (int k = 0; k < points.length; k++) {
            desk.due("point " + k, x.stood(picture, over, k), points[k]);
        }
        desk.due("behind the last", x.stood(picture, over, points.length), -1);
    }

    private static void onePost() {
        x = desk.fresh("post a 10 10 1;post b 14 10 1;post c 14 14 1;post d 10 10 2;post e 2 2 1;post f 3 5 1;");
        desk.picture("year 1;", 0);
        desk.due("all points", x.stood(0, false, -1), 1024);
        desk.due("the first", x.stood(0, false, 0), 0);
        desk.due("the second is beside it", x.stood(0, true, 1), 1);
        desk.due("the last", x.stood(0, true, 1023), 1023);
        desk.due("behind it", x.stood(0, true, 1024), -1);
        desk.due("below NONE", x.stood(0, true, -2), -1);
        desk.picture("before a b;", 1);
        points(1, false, 320, 321, 322, 323, 324, 325, 326, 327, 328, 329);
        points(1, true, 320, 321, 322, 323, 324, 325, 326, 327, 328, 329);
        desk.picture("before b a;", 2);
        points(2, false, 335, 336, 337, 338, 339, 340, 341, 342, 343, 344, 345, 346, 347, 348, 349, 350, 351);
        desk.picture("before b c;", 3);
        points(3, false, 14, 46, 78, 110, 142, 174, 206, 238, 270, 302);
        desk.picture("before a c;", 4);
        points(4, false, 0, 33, 66, 99, 132, 165, 198, 231, 264, 297);
        // Posts at one point: neither is nearer.
        desk.picture("before a d;", 5);
        points(5, false);
        desk.picture("left a d;", 6);
        points(6, false);
        points(6, true);
        // From f through e: in steps of one to the left and three down.
        desk.picture("before e f;", 7);
        points(7, false);
    }

    private static void twoPosts() {
        x = desk.fresh("post a 10 10 1;post b 14 10 1;post c 14 14 1;post o 5 10 1;");
        // Both lines meet at no point, or from the same side of o on.
        desk.picture("before a b;before b c;", 0);
        points(0, false);
        desk.picture("before o b;before a b;week 1;", 1);
        points(1, false, 320, 321, 322, 323, 324);
        desk.picture("before a b;before o b;before o a;", 2);
        points(2, true, 320, 321, 322, 323, 324);
        // On the line of o and b nothing is left of the other.
        desk.picture("before a b;left o b;", 3);
        points(3, false);
    }

    private static void turnedOver() {
        x = desk.fresh("post a 10 10 1;post b 14 10 1;post c 0 0 1;post d 31 31 1;");
        desk.picture("left a b;", 0);
        // (10 - x)(10 - y) - (10 - y)(14 - x) is -4 (10 - y): below 0 if y is below 10.
        desk.due("below the line", x.stood(0, false, -1), 320);
        desk.due("the first", x.stood(0, false, 0), 0);
        desk.due("the last", x.stood(0, false, 319), 319);
        desk.due("above the line", x.stood(0, true, -1), 21 * 32);
        desk.due("the first", x.stood(0, true, 0), 352);
        x = desk.fresh("post a 10 10 1;post b 11 11 1;");
        desk.picture("left a b;", 0);
        // y - x
        desk.due("right beside the line", x.stood(0, false, -1), 496);
        desk.due("turned over", x.stood(0, true, -1), 496);
        desk.due("the first of these", x.stood(0, true, 0), 32);
        x = desk.fresh("post a 10 10 1;post b 14 10 1;post c 0 0 1;post d 31 31 1;");
        desk.picture("left a b;", 0);
        desk.picture("left b a;", 1);
        desk.due("the other way round", x.stood(1, false, -1), 21 * 32);
        desk.due("turned over", x.stood(1, true, -1), 320);
        desk.picture("left c d;", 2);
        // -x (31 - y) + y (31 - x) is 31 (y - x).
        desk.due("beside the diagonal", x.stood(2, false, -1), 496);
        desk.due("the first", x.stood(2, false, 0), 1);
        desk.due("the last", x.stood(2, false, 495), 30 * 32 + 31);
        desk.due("the other half", x.stood(2, true, -1), 496);
        desk.due("the first", x.stood(2, true, 0), 32);
    }

    private static void later() {
        x = desk.fresh("thing m from 100 give 10 till 200 give 5;thing n from 300;thing o from 3000 till 3590 give 9;thing p from 5 till 5;");
        desk.picture("stands m;", 0);
        desk.picture("lacks m;", 1);
        desk.picture("stands n;", 2);
        desk.picture("stands o;", 3);
        desk.picture("lacks o;", 4);
        desk.picture("lacks p;year 0;", 5);
        desk.picture("stands m;lacks m;", 6);
        for (int n = 0; n < 100; n++) {
            x = desk.ready(7);
            desk.due("stands " + n, x.late(0, n), 720 * (116 + n));
            desk.due("lacks " + n, x.late(1, n), 720 * (3600 - 86 - n));
            desk.due("no till " + n, x.late(2, n), 720 * 3300);
            desk.due("to the end " + n, x.late(3, n), 720 * 600);
            desk.due("till below its give " + n, x.late(4, n), 720 * Math.max(3000, 3018 - n));
            desk.due("lacks p " + n, x.late(5, n), 720 * (359 - n));
            desk.due("both " + n, x.late(6, n), 720 * 30);
        }
        desk.due("the first", x.late(0, -1), 0);
        desk.due("nothing changed", x.all(0), 720 * 116);
    }

    private static void leastLater() {
        x = desk.fresh("thing m from 100 till 200 give 5;thing n from 206;thing o from 305;thing q from 304;thing r from 0 till 10;"
            + "clock c slow 0 fast 0;");
        String[] pictures = {"stands m;stands n;", "stands m;stands o;", "stands m;stands q;", "stands m;", "stands m;year 1;",
            "lacks r;lacks m;year 0;", "stands m;stands q;clock c 1;clock c 2;", "stands m;stands n;week 0;clock c 7;"};
        // 206 is one later than 205; 304 is 99 later, 305 none of these; the first 0th weekday from 206 on is 210.
        int[] due = {1, -1, 99, 0, -1, 0, -1, 5};
        for (int i = 0; i < pictures.length; i++) {
            desk.picture(pictures[i], i);
            desk.due("least of " + pictures[i], x.late(i, -1), due[i]);
        }
        desk.due("at 98", x.late(2, 98), 0);
        desk.due("at 99", x.late(2, 99), 720);
        desk.due("at 99", x.late(7, 99), 14);
    }

    private static void none() {
        x = desk.fresh();
        desk.picture("week 1;", 0);
        for (int picture : new int[] {-1, 1, 8, Integer.MIN_VALUE, Integer.MAX_VALUE}) {
            desk.due("quarrel", x.quarrel(picture), -1);
            desk.due("doubt", x.doubt(picture, 0), -1);
            desk.due("rivals", x.doubt(picture, 1), -1);
            desk.due("stood", x.stood(picture, false, -1), -1);
            desk.due("late", x.late(picture, 0), -1);
            desk.due("late", x.late(picture, -1), -1);
        }
        desk.due("doubt 2", x.doubt(0, 2), -1);
        desk.due("doubt -1", x.doubt(0, -1), -1);
        desk.due("late 100", x.late(0, 100), -1);
        desk.due("late -2", x.late(0, -2), -1);
        desk.due("late 99", x.late(0, 99), 720 * 515);
    }
}
