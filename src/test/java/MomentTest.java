/** Promises 9 to 14: which moments signs let, shadows, and all, days and runs of them. */
public final class MomentTest {
    private static final Desk desk = new Desk("MomentTest");
    private static final int NO_SHADOW = -1000000;
    private static PlateDay x;

    public static void main(String[] args) {
        dayEdges();
        treeEdges();
        clockEdges();
        shadows();
        shadowSigns();
        wrongMoments();
        allAndDays();
        twoRunsADay();
        runsAtRows();
        judged();
        desk.close();
    }

    private static void lets(int k, int day, int minute, int due) {
        x = desk.ready(1);
        desk.due("lets " + k + " " + day + " " + minute, x.lets(0, k, day, minute), due);
    }

    /** What a sign lets at the two sides of where it begins or ends. */
    private static void turns(int k, int lastNot, int first) {
        lets(k, lastNot, 0, 0);
        lets(k, first, 0, 1);
        lets(k, lastNot, 719, 0);
        lets(k, first, 719, 1);
    }

    private static void dayEdges() {
        x = desk.fresh("thing m from 100 give 10 till 200 give 5;thing n from 150;thing o from 3 give 9;"
            + "thing w from 50 give 20 till 60 give 20;thing v from 3590 give 5 till 3599 give 99;thing u from 0;");
        desk.picture("stands m;lacks m;stands n;lacks n;stands o;lacks o;stands w;lacks w;stands v;lacks v;stands u;lacks u;", 0);
        turns(0, 89, 90);
        turns(0, 206, 205);
        turns(1, 110, 109);
        turns(1, 195, 196);
        turns(2, 149, 150);
        lets(2, 3599, 0, 1);
        turns(3, 150, 149);
        lets(3, 3599, 0, 0);
        lets(4, 0, 0, 1);
        turns(5, 12, 11);
        turns(6, 29, 30);
        turns(6, 81, 80);
        for (int day = 0; day < 130; day++) {
            lets(7, day, 5, 1);
        }
        turns(8, 3584, 3585);
        lets(8, 3599, 0, 1);
        for (int day = 3480; day < 3600; day++) {
            lets(9, day, 5, 1);
        }
        lets(10, 0, 0, 1);
        lets(11, 0, 0, 0);
        lets(11, 3599, 0, 0);

        x = desk.fresh();
        desk.picture("week 0;week 6;year 0;year 9;", 0);
        lets(0, 0, 0, 1);
        lets(0, 6, 0, 0);
        lets(0, 7, 0, 1);
        turns(0, 3597, 3598);
        turns(1, 5, 6);
        turns(1, 7, 13);
        turns(2, 360, 359);
        turns(3, 3239, 3240);
        lets(3, 3599, 719, 1);
    }

    private static void treeEdges() {
        x = desk.fresh("tree e leaf 300 bare 60;tree f leaf 60 bare 300;tree g leaf 0 bare 359;tree h leaf 359 bare 0;");
        desk.picture("leaf e;bare e;leaf f;bare f;leaf g;bare g;leaf h;bare h;", 0);
        for (int year = 0; year < 10; year++) {
            int start = 360 * year;
            turns(0, start + 299, start + 300);
            turns(0, start + 60, start + 59);
            lets(0, start, 0, 1);
            lets(0, start + 359, 0, 1);
            turns(1, start + 300, start + 299);
            turns(1, start + 59, start + 60);
            turns(2, start + 59, start + 60);
            turns(2, start + 300, start + 299);
            turns(3, start + 60, start + 59);
            turns(3, start + 299, start + 300);
            turns(4, start + 359, start + 358);
            turns(5, start + 358, start + 359);
            turns(5, start, start + 359);
            turns(6, start, start + 359);
            turns(7, start + 359, start);
        }
    }

    private static void clockEdges() {
        x = desk.fresh("clock c slow 5 fast 3;clock d slow 0 fast 0;clock e slow 99 fast 99;");
        desk.picture("clock c 300;clock c 2;clock c 716;clock d 0;clock d 719;clock e 50;", 0);
        int[][] spans = {{297, 305}, {0, 7}, {713, 719}, {0, 0}, {719, 719}, {0, 149}};
        for (int k = 0; k < spans.length; k++) {
            for (int minute = 0; minute < 720; minute++) {
                lets(k, minute, minute, minute >= spans[k][0] && minute <= spans[k][1] ? 1 : 0);
            }
        }
    }

    private static void shadow(int post, int month, int minute, int ux, int lx, int uy, int ly) {
        int[] due = {ux, lx, uy, ly};
        for (int what = 0; what < 4; what++) {
            desk.due("shadow " + post + " " + month + " " + minute + " " + what, x.shadow(post, month, minute, what), due[what]);
        }
    }

    private static void noShadow(int post, int month, int minute) {
        shadow(post, month, minute, NO_SHADOW, NO_SHADOW, NO_SHADOW, NO_SHADOW);
    }

    private static final String SUNS = "post p 10 10 10;post q 3 4 7;sun 2 100 west 10 south 20;sun 5 300 east 5 north 5;"
        + "sun 2 200 east 10 south 20;sun 2 500 east 99 north 99;sun 0 0 west 99 north 0;sun 11 719 east 0 south 0;";

    private static void shadows() {
        x = desk.fresh(SUNS);
        shadow(0, 2, 100, 0, 1, -10, 1);
        shadow(0, 2, 101, 1, 5, -10, 1);
        shadow(0, 2, 125, 5, 1, -10, 1);
        shadow(0, 2, 150, 10, 1, -10, 1);
        shadow(0, 2, 200, 20, 1, -10, 1);
        shadow(0, 2, 500, 109, 1, 109, 1);
        shadow(1, 2, 101, -193, 50, -10, 1);
        shadow(1, 2, 300, 923, 30, 533, 30);
        shadow(1, 2, 350, 823, 20, 633, 20);
        shadow(0, 5, 300, 15, 1, 15, 1);
        shadow(1, 5, 300, 13, 2, 15, 2);
        shadow(1, 0, 0, -663, 10, 4, 1);
        shadow(0, 11, 719, 10, 1, 10, 1);
        noShadow(0, 2, 99);
        noShadow(0, 2, 501);
        noShadow(0, 5, 299);
        noShadow(0, 5, 301);
        noShadow(0, 0, 1);
        noShadow(0, 0, -1);
        noShadow(0, 11, 718);
        noShadow(0, 11, 720);
        noShadow(0, 1, 300);
        noShadow(0, -1, 300);
        noShadow(0, 12, 300);
        noShadow(2, 2, 100);
        noShadow(-1, 2, 100);
        desk.due("no such number", x.shadow(0, 2, 100, 4), NO_SHADOW);
        desk.due("no such number", x.shadow(0, 2, 100, -1), NO_SHADOW);
        // A shadow that falls on no line at all: its upper number is 0, its lower one 1.
        x = desk.fresh("post p 0 0 20;sun 4 10 east 3 north 0;sun 4 13 west 3 north 1;");
        shadow(0, 4, 11, 2, 1, 2, 3);
        shadow(0, 4, 12, -2, 1, 4, 3);
        x = desk.fresh("post p 0 0 20;sun 4 10 east 3 north 0;sun 4 12 west 3 north 0;");
        shadow(0, 4, 11, 0, 1, 0, 1);
    }

    private static void shadowSigns() {
        x = desk.fresh(SUNS);
        desk.picture("shadow p 10 0 give 10;shadow p 10 0 give 9;shadow p 15 15;shadow p 15 14;shadow p 14 15 give 1;shadow q 7 8;"
            + "shadow p 0 0 give 99;", 0);
        for (int minute = 0; minute < 720; minute++) {
            lets(0, 60, minute, minute >= 100 && minute <= 200 ? 1 : 0);
            lets(0, 360 + 89, minute, minute >= 100 && minute <= 200 ? 1 : 0);
            lets(0, 59, minute, 1);
            lets(0, 90, minute, 1);
            lets(1, 60, minute, 0);
            lets(2, 150, minute, minute == 300 ? 1 : 0);
            lets(3, 179, minute, 0);
            lets(4, 179, minute, minute == 300 ? 1 : 0);
            lets(5, 150, minute, 0);
            lets(6, 3240, minute, minute == 0 ? 1 : 0);
            lets(6, 3599, minute, minute == 719 ? 1 : 0);
        }
        // x = 10 + 89 (minute - 200) / 300 + 10 is at most 99 until 466; y is 10 less, at most 99 until 491.
        lets(6, 60, 466, 1);
        lets(6, 60, 467, 0);
        lets(6, 60, 100, 1);
    }

    private static void wrongMoments() {
        x = desk.fresh();
        desk.picture("week 0;", 0);
        int[][] wrong = {{-1, 0, 0, 0}, {1, 0, 0, 0}, {0, -1, 0, 0}, {0, 1, 0, 0}, {0, 0, -1, 0}, {0, 0, 3600, 0}, {0, 0, 0, -1}, {0, 0, 0, 720},
            {Integer.MIN_VALUE, 0, 0, 0}, {0, Integer.MAX_VALUE, 0, 0}, {0, 0, Integer.MIN_VALUE, 0}, {0, 0, 0, Integer.MAX_VALUE}};
        for (int[] w : wrong) {
            desk.due("lets none such", x.lets(w[0], w[1], w[2], w[3]), -1);
            if (w[1] == 0) {
                desk.due("judge none such", x.judge(w[0], w[2], w[3]), -2);
            }
        }
        desk.due("all none such", x.all(1), -1);
        desk.due("all none such", x.all(-1), -1);
        desk.due("days none such", x.days(1, -1), -1);
        desk.due("days none such", x.days(-1, -1), -1);
        desk.due("days none such", x.days(0, -2), -1);
        desk.due("runs none such", x.runs(1, -1, 0), -1);
        desk.due("runs none such", x.runs(0, -2, 0), -1);
        desk.due("runs none such", x.runs(0, Integer.MIN_VALUE, 0), -1);
    }

    private static void allAndDays() {
        x = desk.fresh(SUNS);
        desk.picture("shadow p 10 0 give 10;year 0;", 0);
        // Months 0 and 5 have no such minute, month 2 has 101, month 11 has one.
        desk.due("all", x.all(0), 30 * (8 * 720 + 101 + 1));
        desk.due("days", x.days(0, -1), 300);
        int[][] days = {{0, 30}, {29, 59}, {30, 60}, {59, 89}, {60, 90}, {119, 149}, {120, 180}, {269, 329}, {270, 330}, {299, 359}, {300, -1}, {Integer.MAX_VALUE, -1}};
        for (int[] d : days) {
            desk.due("day " + d[0], x.days(0, d[0]), d[1]);
        }
        desk.due("runs", x.runs(0, -1, 0), 300);
        int[][] runs = {{29, 59, 0, 719}, {30, 60, 100, 200}, {59, 89, 100, 200}, {60, 90, 0, 719}, {269, 329, 0, 719}, {270, 330, 719, 719}, {300, -1, -1, -1}};
        for (int[] r : runs) {
            for (int what = 0; what < 3; what++) {
                desk.due("run " + r[0] + " " + what, x.runs(0, r[0], what), r[what + 1]);
            }
            desk.due("run " + r[0], x.runs(0, r[0], 3), -1);
            desk.due("run " + r[0], x.runs(0, r[0], -1), -1);
        }
        desk.due("runs are counted by what 0", x.runs(0, -1, 1), -1);
        desk.due("runs are counted by what 0", x.runs(0, -1, 2), -1);

        desk.picture("before p q;", 1);
        desk.due("every moment", x.all(1), 2592000);
        desk.due("every day", x.days(1, -1), 3600);
        desk.due("the last day", x.days(1, 3599), 3599);
        desk.due("behind it", x.days(1, 3600), -1);
        desk.due("every day's run", x.runs(1, -1, 0), 3600);
        desk.due("the last run", x.runs(1, 3599, 0), 3599);
        desk.picture("week 6;year 9;", 2);
        // 3240 is the 6th weekday (3240 = 7 * 462 + 6).
        desk.due("weekdays of a year", x.days(2, -1), 52);
        desk.due("the first", x.days(2, 0), 3240);
        desk.due("the last", x.days(2, 51), 3597);
        desk.picture("year 1;year 2;", 3);
        desk.due("none", x.all(3), 0);
        desk.due("no days", x.days(3, -1), 0);
        desk.due("no first day", x.days(3, 0), -1);
        desk.due("no runs", x.runs(3, -1, 0), 0);
        desk.due("no first run", x.runs(3, 0, 0), -1);
    }

    private static void twoRunsADay() {
        x = desk.fresh("post p 10 10 10;clock c slow 10 fast 10;sun 0 100 east 0 north 0;sun 0 200 east 20 north 0;sun 0 300 east 0 north 0;"
            + "sun 4 0 east 0 north 0;sun 4 719 east 0 north 0;");
        desk.picture("shadow p 10 10 give 5;year 0;", 0);
        desk.due("all", x.all(0), 30 * 52 + 330 * 720);
        desk.due("runs", x.runs(0, -1, 0), 60 + 330);
        int[][] runs = {{0, 0, 100, 125}, {1, 0, 275, 300}, {2, 1, 100, 125}, {58, 29, 100, 125}, {59, 29, 275, 300}, {60, 30, 0, 719},
            {389, 359, 0, 719}, {390, -1, -1, -1}};
        for (int[] r : runs) {
            for (int what = 0; what < 3; what++) {
                desk.due("run " + r[0] + " " + what, x.runs(0, r[0], what), r[what + 1]);
            }
        }
        desk.more(0, "clock c 115;", 3);
        desk.due("cut by a clock", x.all(0), 30 * 21 + 330 * 21);
        desk.due("to one run", x.runs(0, -1, 0), 360);
        desk.due("from", x.runs(0, 0, 1), 105);
        desk.due("to", x.runs(0, 0, 2), 125);
        desk.more(0, "clock c 719;", 4);
        desk.due("clocks that can't be one", x.all(0), 0);
        desk.due("no days without a minute", x.days(0, -1), 0);
    }

    /** Runs that begin, end or go on at a minute that is divisible by 30, where the rows of bits meet. */
    private static void runsAtRows() {
        x = desk.fresh("clock c slow 5 fast 1;");
        int[][] spans = {{30, 29, 35}, {31, 30, 36}, {24, 23, 29}, {59, 58, 64}, {0, 0, 5}, {719, 718, 719}, {690, 689, 695}};
        for (int i = 0; i < spans.length; i++) {
            desk.picture("clock c " + spans[i][0] + ";year 0;", i);
            desk.due("runs " + i, x.runs(i, -1, 0), 360);
            desk.due("first minute " + i, x.runs(i, 359, 1), spans[i][1]);
            desk.due("last minute " + i, x.runs(i, 359, 2), spans[i][2]);
            desk.due("all " + i, x.all(i), 360 * (spans[i][2] - spans[i][1] + 1));
        }
        for (int minute = 0; minute < 720; minute++) {
            x = desk.fresh("clock e slow 99 fast 99;");
            desk.picture("clock e " + minute + ";", 0);
            int first = Math.max(0, minute - 99);
            int last = Math.min(719, minute + 99);
            desk.due("one run a day, " + minute, x.runs(0, -1, 0), 3600);
            desk.due("from " + minute, x.runs(0, 3599, 1), first);
            desk.due("to " + minute, x.runs(0, 3599, 2), last);
        }
        // The shadow stands in the way at minutes 28 and 29, 29 alone, and 30 alone.
        String[] suns = {"sun 0 27 east 0 north 0;sun 0 28 east 9 north 0;sun 0 29 east 9 north 0;sun 0 30 east 0 north 0;sun 0 719 east 0 north 0;",
            "sun 0 28 east 0 north 0;sun 0 29 east 9 north 0;sun 0 30 east 0 north 0;sun 0 719 east 0 north 0;",
            "sun 0 29 east 0 north 0;sun 0 30 east 9 north 0;sun 0 31 east 0 north 0;sun 0 719 east 0 north 0;"};
        int[][] due = {{27, 27, 30}, {28, 28, 30}, {29, 29, 31}};
        for (int i = 0; i < suns.length; i++) {
            x = desk.fresh("post p 10 10 10;" + suns[i]);
            desk.picture("shadow p 10 10;year 0;", 0);
            desk.due("two runs a day in one month", x.runs(0, -1, 0), 60 + 330);
            desk.due("first run's first", x.runs(0, 0, 1), due[i][0]);
            desk.due("first run's last", x.runs(0, 0, 2), due[i][1]);
            desk.due("second run's first", x.runs(0, 1, 1), due[i][2]);
            desk.due("second run's last", x.runs(0, 1, 2), 719);
        }
    }

    private static void judged() {
        x = desk.fresh("thing m from 100 give 10 till 200 give 5;clock c slow 5 fast 3;");
        desk.picture("stands m;clock c 300;week 2;", 0);
        desk.due("all let it", x.judge(0, 100, 300), -1);
        desk.due("the first bars it", x.judge(0, 89, 0), 0);
        desk.due("the second bars it", x.judge(0, 100, 296), 1);
        desk.due("the third bars it", x.judge(0, 101, 300), 2);
        desk.due("the last day", x.judge(0, 3599, 719), 0);
        desk.due("behind it", x.judge(0, 3600, 719), -2);
        desk.due("no such minute", x.judge(0, 3599, 720), -2);
        desk.due("no such picture", x.judge(1, 0, 0), -2);
    }
}
