/** Promises 9 to 14: each sentence that names a boundary of what SIGNS LET, of SHADOWS, of ALL, its DAYS and its RUNS, on both its sides. */
public final class EdgeMomentTest {
    private static final Desk desk = new Desk("EdgeMomentTest");
    private static final int NO_SHADOW = -1000000;
    private static final int[] WILD = {Integer.MIN_VALUE, Integer.MIN_VALUE + 1, Integer.MAX_VALUE - 1, Integer.MAX_VALUE};

    public static void main(String[] args) {
        stands();
        lacks();
        leafAndBare();
        weeks();
        years();
        clocks();
        beforeAndLeft();
        shadowWithoutRows();
        shadowRows();
        shadowGives();
        shadowFractions();
        shadowBothWays();
        lastOfEachKind();
        fortyRows();
        letsNone();
        sunRows();
        sunDirections();
        lowestTerms();
        shadowNone();
        allNone();
        allMost();
        allTogether();
        daysFirstToLast();
        daysNone();
        runsOfDays();
        runsOfMinutes();
        runsOfMonths();
        runsEnds();
        runsNone();
        judgeFirst();
        judgeNone();
        desk.close();
    }

    private static void lets(int k, int day, int minute, int due) {
        PlateDay x = desk.ready(1);
        desk.due("lets " + k + " " + day + " " + minute, x.lets(0, k, day, minute), due);
    }

    private static void onDay(int k, int day, int due) {
        if (day >= 0 && day < 3600) {
            lets(k, day, 0, due);
            lets(k, day, 719, due);
        }
    }

    /** A sign lets the DAYS from one to the other, and none beside them. */
    private static void daysLet(int k, int first, int last) {
        onDay(k, first - 1, 0);
        onDay(k, first, 1);
        onDay(k, (first + last) / 2, 1);
        onDay(k, last, 1);
        onDay(k, last + 1, 0);
    }

    /** A sign lets all but the DAYS from one to the other. */
    private static void daysBarred(int k, int first, int last) {
        onDay(k, first - 1, 1);
        onDay(k, first, 0);
        onDay(k, (first + last) / 2, 0);
        onDay(k, last, 0);
        onDay(k, last + 1, 1);
    }

    private static void minutesLet(int k, int day, int first, int last) {
        for (int minute = 0; minute < 720; minute += minute == 0 || minute == 718 ? 1 : 17) {
            lets(k, day, minute, minute >= first && minute <= last ? 1 : 0);
        }
        for (int minute : new int[] {first - 1, first, last, last + 1, 719}) {
            if (minute >= 0 && minute < 720) {
                lets(k, day, minute, minute >= first && minute <= last ? 1 : 0);
            }
        }
    }

    private static void stands() {
        desk.says("Terms, 2: \"stands\": its DAY from \"from\" less GIVE to \"till\" and its GIVE (without \"till\": to the end)");
        String[] things = {"from 100 give 10 till 200 give 5", "from 100", "from 5 give 5", "from 4 give 5", "from 6 give 5 till 6", "from 0 till 0",
            "from 3599", "from 3599 give 99 till 3599 give 99", "from 3500 till 3590 give 9", "from 3500 till 3590 give 8", "from 3500 till 3591 give 9",
            "from 360 till 719"};
        int[][] due = {{90, 205}, {100, 3599}, {0, 3599}, {0, 3599}, {1, 6}, {0, 0}, {3599, 3599}, {3500, 3599}, {3500, 3599}, {3500, 3598},
            {3500, 3599}, {360, 719}};
        StringBuilder town = new StringBuilder();
        StringBuilder signs = new StringBuilder();
        for (int i = 0; i < things.length; i++) {
            town.append("thing x").append((char) ('a' + i)).append(' ').append(things[i]).append(';');
            signs.append("stands x").append((char) ('a' + i)).append(';');
        }
        desk.fresh(town.toString());
        desk.picture(signs.toString(), 0);
        for (int k = 0; k < due.length; k++) {
            daysLet(k, due[k][0], due[k][1]);
            onDay(k, 0, due[k][0] == 0 ? 1 : 0);
            onDay(k, 3599, due[k][1] == 3599 ? 1 : 0);
        }
    }

    private static void lacks() {
        desk.says("Terms, 2: \"lacks\": it's less than \"from\" and GIVE, or (with \"till\") above that less its GIVE.");
        // The DAYS that are barred; from 1 to 0: none.
        String[] things = {"from 100 give 10 till 200 give 5", "from 100", "from 5 give 5", "from 0 till 0", "from 0", "from 0 give 1", "from 3599",
            "from 3599 give 1", "from 10 till 3599 give 1", "from 50 give 10 till 65 give 6", "from 50 give 10 till 65 give 5", "from 10 till 3599"};
        int[][] barred = {{110, 195}, {100, 3599}, {10, 3599}, {0, 0}, {0, 3599}, {1, 3599}, {3599, 3599}, {1, 0}, {10, 3598}, {1, 0}, {60, 60},
            {10, 3599}};
        StringBuilder town = new StringBuilder();
        StringBuilder signs = new StringBuilder();
        for (int i = 0; i < things.length; i++) {
            town.append("thing x").append((char) ('a' + i)).append(' ').append(things[i]).append(';');
            signs.append("lacks x").append((char) ('a' + i)).append(';');
        }
        desk.fresh(town.toString());
        desk.picture(signs.toString(), 0);
        for (int k = 0; k < barred.length; k++) {
            if (barred[k][0] <= barred[k][1]) {
                daysBarred(k, barred[k][0], barred[k][1]);
            } else {
                for (int day : new int[] {0, 1, 49, 50, 58, 59, 60, 61, 65, 1800, 3598, 3599}) {
                    onDay(k, day, 1);
                }
            }
            onDay(k, 0, barred[k][0] == 0 ? 0 : 1);
            onDay(k, 3599, barred[k][1] == 3599 ? 0 : 1);
        }
        // Gone for sure ahead of its time: less than 0 is no DAY, so each one is behind it.
        desk.fresh("thing m from 0 give 3 till 3 give 4;thing n from 2 give 0 till 5 give 99;");
        desk.picture("lacks m;lacks n;", 0);
        for (int day : new int[] {0, 1, 2, 3, 4, 3599}) {
            onDay(0, day, 1);
            onDay(1, day, 1);
        }
    }

    private static void leafAndBare() {
        desk.says("Terms, 2: \"leaf\": its place in the YEAR from \"leaf\" to ahead of \"bare\" (over the YEAR's end, if \"bare\" is the lesser); \"bare\": else.");
        int[][] trees = {{60, 300}, {300, 60}, {0, 1}, {359, 0}, {358, 359}, {1, 0}};
        StringBuilder town = new StringBuilder();
        StringBuilder signs = new StringBuilder();
        for (int i = 0; i < trees.length; i++) {
            town.append("tree x").append((char) ('a' + i)).append(" leaf ").append(trees[i][0]).append(" bare ").append(trees[i][1]).append(';');
            signs.append("leaf x").append((char) ('a' + i)).append(";bare x").append((char) ('a' + i)).append(';');
        }
        desk.fresh(town.toString());
        desk.picture(signs.toString(), 0);
        for (int i = 0; i < trees.length; i++) {
            for (int year : new int[] {0, 1, 8, 9}) {
                for (int place : new int[] {trees[i][0], trees[i][1], 0}) {
                    for (int beside = -1; beside <= 1; beside++) {
                        int at = (place + beside + 360) % 360;
                        int since = (at - trees[i][0] + 360) % 360;
                        int inLeaf = since < (trees[i][1] - trees[i][0] + 360) % 360 ? 1 : 0;
                        onDay(2 * i, 360 * year + at, inLeaf);
                        onDay(2 * i + 1, 360 * year + at, 1 - inLeaf);
                    }
                }
            }
        }
        // The same, by numbers written out.
        int[][] due = {{0, 59, 0}, {0, 60, 1}, {0, 299, 1}, {0, 300, 0}, {2, 59, 1}, {2, 60, 0}, {2, 299, 0}, {2, 300, 1}, {2, 359, 1}, {2, 360, 1},
            {4, 0, 1}, {4, 1, 0}, {4, 359, 0}, {4, 360, 1}, {6, 358, 0}, {6, 359, 1}, {6, 360, 0}, {6, 3599, 1}, {8, 357, 0}, {8, 358, 1},
            {8, 359, 0}, {10, 0, 0}, {10, 1, 1}, {10, 359, 1}, {10, 360, 0}, {10, 3599, 1}, {1, 59, 1}, {1, 60, 0}, {3, 0, 0}, {3, 60, 1}, {7, 0, 1},
            {7, 359, 0}, {11, 0, 1}, {11, 1, 0}};
        for (int[] d : due) {
            onDay(d[0], d[1], d[2]);
        }
        // Each place of one YEAR, over its end and not.
        desk.picture("leaf xa;year 3;", 1);
        desk.picture("leaf xb;year 3;", 2);
        PlateDay x = desk.ready(4);
        desk.due("from 60 to 299", x.days(1, -1), 240);
        desk.due("the other ones", x.days(2, -1), 120);
        desk.due("over the end: the first", x.days(2, 0), 1080);
        desk.due("over the end: behind 59", x.days(2, 60), 1380);
    }

    private static void weeks() {
        desk.says("Terms, 2: \"week\": its own. Terms: its WEEKDAY: modulo 7");
        desk.fresh();
        StringBuilder signs = new StringBuilder();
        for (int day = 0; day < 7; day++) {
            signs.append("week ").append(day).append(';');
        }
        desk.picture(signs.toString(), 0);
        int[] days = {0, 1, 5, 6, 7, 8, 13, 14, 359, 360, 3590, 3591, 3592, 3597, 3598, 3599};
        int[] weekdays = {0, 1, 5, 6, 0, 1, 6, 0, 2, 3, 6, 0, 1, 6, 0, 1};
        for (int i = 0; i < days.length; i++) {
            for (int k = 0; k < 7; k++) {
                onDay(k, days[i], k == weekdays[i] ? 1 : 0);
            }
        }
    }

    private static void years() {
        desk.says("Terms, 2: \"year\": its own. Terms: its YEAR: by 360");
        desk.fresh();
        StringBuilder signs = new StringBuilder();
        for (int year = 0; year < 10; year++) {
            signs.append("year ").append(year).append(';');
        }
        desk.picture(signs.toString(), 0);
        for (int year = 0; year < 10; year++) {
            daysLet(year, 360 * year, 360 * year + 359);
        }
    }

    private static void clocks() {
        desk.says("Terms, 2: \"clock\": its MINUTE from that shown less \"fast\" to it and \"slow\". (No other DAY's MINUTES come into it.)");
        desk.fresh("clock c slow 5 fast 3;clock d slow 0 fast 0;clock e slow 99 fast 99;clock f slow 7 fast 0;");
        String[] signs = {"c 300", "c 3", "c 2", "c 0", "c 714", "c 715", "c 719", "d 0", "d 719", "e 98", "e 621", "f 360"};
        int[][] due = {{297, 305}, {0, 8}, {0, 7}, {0, 5}, {711, 719}, {712, 719}, {716, 719}, {0, 0}, {719, 719}, {0, 197}, {522, 719}, {360, 367}};
        desk.picture("clock " + String.join(";clock ", signs) + ";", 0);
        for (int k = 0; k < due.length; k++) {
            minutesLet(k, 0, due[k][0], due[k][1]);
            minutesLet(k, 3599, due[k][0], due[k][1]);
        }
    }

    private static void beforeAndLeft() {
        desk.says("Terms, 2: \"before\", \"left\": each.");
        desk.fresh("post p 1 1 1;post q 1 1 1;post r 2 2 2;");
        desk.picture("before p q;left p q;before p r;left r p;", 0);
        for (int k = 0; k < 4; k++) {
            onDay(k, 0, 1);
            onDay(k, 1800, 1);
            onDay(k, 3599, 1);
        }
        desk.due("all", desk.now().all(0), 2592000);
        desk.due("quarrel", desk.now().quarrel(0), 0);
    }

    private static void shadowWithoutRows() {
        desk.says("Terms, 2: \"shadow\": in a MONTH without rows each MINUTE. Terms: its MONTH: its place in the YEAR by 30 (0 to 11)");
        desk.fresh("post p 0 0 1;sun 1 300 east 0 north 0;sun 11 400 east 0 north 0;");
        desk.picture("shadow p 31 31;", 0);
        for (int year : new int[] {0, 1, 9}) {
            int start = 360 * year;
            for (int place : new int[] {0, 28, 29, 60, 61, 328, 329}) {
                onDay(0, start + place, 1);
                lets(0, start + place, 300, 1);
            }
            for (int place : new int[] {30, 31, 58, 59, 330, 331, 358, 359}) {
                onDay(0, start + place, 0);
                lets(0, start + place, 300, 0);
                lets(0, start + place, 400, 0);
            }
        }
        desk.fresh("post p 0 0 1;");
        desk.picture("shadow p 31 31;", 0);
        desk.due("no rows at all", desk.now().all(0), 2592000);
    }

    private static void shadowRows() {
        desk.says("Terms, 2: \"shadow\": .. MINUTES from its first row to its last");
        desk.fresh("post p 10 10 10;sun 0 100 east 1 north 0;sun 0 110 east 0 north 1;sun 0 120 west 1 north 0;sun 1 719 east 0 north 0;"
            + "sun 2 0 east 0 north 0;sun 3 0 east 0 north 0;sun 3 719 east 0 north 0;sun 4 29 east 0 north 0;sun 4 30 east 0 north 0;");
        desk.picture("shadow p 10 10 give 99;", 0);
        minutesLet(0, 0, 100, 120);
        minutesLet(0, 29, 100, 120);
        minutesLet(0, 30, 719, 719);
        minutesLet(0, 60, 0, 0);
        minutesLet(0, 90, 0, 719);
        minutesLet(0, 120, 29, 30);
        minutesLet(0, 150, 0, 719);
    }

    private static void shadowGives() {
        desk.says("Terms, 2: \"shadow\": .. at which x, y of the SHADOW are at most GIVE (0 without) from those told.");
        // At 100 to 110 the shadow goes from 10 10 to 20 10, a step a MINUTE.
        desk.fresh("post p 10 10 10;sun 0 100 east 0 north 0;sun 0 110 east 10 north 0;");
        String[] signs = {"15 10", "15 10 give 0", "15 10 give 1", "15 10 give 2", "15 10 give 4", "15 10 give 5", "15 10 give 6", "15 12 give 2",
            "15 8 give 2", "15 13 give 2", "15 7 give 2", "10 10"};
        int[][] due = {{105, 105}, {105, 105}, {104, 106}, {103, 107}, {101, 109}, {100, 110}, {100, 110}, {103, 107}, {103, 107}, {1, 0}, {1, 0},
            {100, 100}};
        desk.picture("shadow p " + String.join(";shadow p ", signs) + ";", 0);
        for (int k = 0; k < due.length; k++) {
            for (int minute = 99; minute <= 111; minute++) {
                lets(k, 7, minute, minute >= due[k][0] && minute <= due[k][1] ? 1 : 0);
            }
        }
        // The same for y.
        desk.fresh("post p 10 10 10;sun 0 100 east 0 north 0;sun 0 110 east 0 north 10;");
        String[] others = {"10 15", "10 15 give 2", "12 15 give 2", "13 15 give 2", "8 15 give 2", "7 15 give 2", "10 20 give 10", "10 20 give 9"};
        int[][] otherDue = {{105, 105}, {103, 107}, {103, 107}, {1, 0}, {103, 107}, {1, 0}, {100, 110}, {101, 110}};
        desk.picture("shadow p " + String.join(";shadow p ", others) + ";", 0);
        for (int k = 0; k < otherDue.length; k++) {
            for (int minute = 99; minute <= 111; minute++) {
                lets(k, 7, minute, minute >= otherDue[k][0] && minute <= otherDue[k][1] ? 1 : 0);
            }
        }
    }

    private static void shadowFractions() {
        desk.says("Terms, 2: \"shadow\": .. at most GIVE (0 without) from those told (of fractions: none is rounded)");
        // A third of a step a MINUTE, to the east and to the north.
        desk.fresh("post p 10 10 10;sun 0 100 east 0 north 0;sun 0 130 east 10 north 10;sun 1 0 east 0 north 0;sun 1 719 east 1 north 0;");
        desk.picture("shadow p 11 11;shadow p 11 11 give 1;shadow p 14 14 give 1;shadow p 12 11 give 1;shadow p 10 10;shadow p 11 10;", 0);
        int[][] due = {{103, 103}, {100, 106}, {109, 115}, {103, 106}};
        for (int k = 0; k < due.length; k++) {
            for (int minute = 100; minute <= 130; minute++) {
                lets(k, 3, minute, minute >= due[k][0] && minute <= due[k][1] ? 1 : 0);
            }
        }
        // By 1 in 719 MINUTES: the first MINUTE alone is at 10, the last alone at 11.
        lets(4, 30, 0, 1);
        lets(4, 30, 1, 0);
        lets(5, 30, 718, 0);
        lets(5, 30, 719, 1);
    }

    private static void shadowBothWays() {
        desk.says("Terms, 2: its rows tell by how much a shadow of a post of 10 falls to the east (west: less), to the north (south: less)");
        desk.fresh("post q 0 0 20;post r 31 31 20;sun 0 5 west 49 south 49;sun 1 5 east 49 north 49;sun 2 5 west 49 north 49;sun 3 5 east 49 south 49;");
        // The shadow of q falls by 98 each way, that of r from 31 by 98.
        desk.picture("shadow q 1 1 give 99;shadow q 2 1 give 99;shadow q 1 2 give 99;shadow r 30 30 give 99;shadow r 29 30 give 99;shadow r 30 29 give 99;", 0);
        int[][] due = {{1, 0, 0, 1, 1, 1}, {1, 1, 1, 1, 0, 0}, {1, 0, 1, 1, 1, 0}, {1, 1, 0, 1, 0, 1}};
        for (int month = 0; month < 4; month++) {
            for (int k = 0; k < 6; k++) {
                lets(k, 30 * month, 5, due[month][k]);
            }
        }
    }

    private static void lastOfEachKind() {
        desk.says("Terms: Up to 12 things, 6 trees, 10 posts, 4 clocks (what the last one of each tells counts as that of the first)");
        StringBuilder town = new StringBuilder();
        for (int i = 0; i < 12; i++) {
            String name = "" + (char) ('a' + i);
            town.append("thing m").append(name).append(" from ").append(100 * i + 50).append(" till ").append(100 * i + 60).append(';');
            town.append(i < 6 ? "tree e" + name + " leaf " + (50 * i + 5) + " bare " + (50 * i + 8) + ";" : "");
            town.append(i < 10 ? "post p" + name + " " + (3 * i) + " " + (31 - i) + " " + (i + 1) + ";" : "");
            town.append(i < 4 ? "clock c" + name + " slow " + (10 * i + 1) + " fast " + (20 * i + 2) + ";" : "");
        }
        desk.fresh(town + "sun 0 300 east 10 south 10;");
        desk.picture("stands ma;stands ml;lacks ml;leaf ea;leaf ef;bare ef;clock ca 400;clock cd 400;shadow pa 1 30;shadow pj 31 12 give 6;", 0);
        daysLet(0, 50, 60);
        daysLet(1, 1150, 1160);
        daysBarred(2, 1150, 1160);
        onDay(3, 4, 0);
        onDay(3, 5, 1);
        onDay(3, 7, 1);
        onDay(3, 8, 0);
        onDay(4, 254, 0);
        onDay(4, 255, 1);
        onDay(4, 257, 1);
        onDay(4, 258, 0);
        onDay(5, 257, 0);
        onDay(5, 258, 1);
        minutesLet(6, 0, 398, 401);
        minutesLet(7, 0, 338, 431);
        minutesLet(8, 0, 300, 300);
        minutesLet(9, 0, 300, 300);
        PlateDay x = desk.ready(4);
        desk.due("x of the last", x.shadow(9, 0, 300, 0), 37);
        desk.due("y of the last", x.shadow(9, 0, 300, 2), 12);
        desk.due("x of the first", x.shadow(0, 0, 300, 0), 1);
        desk.due("y of the first", x.shadow(0, 0, 300, 2), 30);
    }

    private static void fortyRows() {
        desk.says("Terms: Up to .. 40 suns (all of one MONTH, the last rows, too)");
        StringBuilder town = new StringBuilder("post p 0 0 10;");
        for (int i = 0; i < 40; i++) {
            town.append("sun 7 ").append(10 * i).append("east").append(i % 2 == 0 ? i : 0).append("north").append(i).append(';');
        }
        desk.fresh();
        desk.town(town.toString(), 41);
        shadow(0, 7, 0, 0, 1, 0, 1);
        shadow(0, 7, 5, 0, 1, 1, 2);
        shadow(0, 7, 15, 1, 1, 3, 2);
        shadow(0, 7, 370, 0, 1, 37, 1);
        shadow(0, 7, 375, 19, 1, 75, 2);
        shadow(0, 7, 380, 38, 1, 38, 1);
        shadow(0, 7, 385, 19, 1, 77, 2);
        shadow(0, 7, 389, 19, 5, 389, 10);
        shadow(0, 7, 390, 0, 1, 39, 1);
        noShadow(0, 7, 391);
        noShadow(0, 6, 390);
        noShadow(0, 8, 0);
    }

    private static void letsNone() {
        desk.says("Promise 9: Whether a SIGN LETS a MOMENT (1, 0). NONE: none such. Terms: DAYS 0 to 3,599, MINUTES 0 to 719");
        PlateDay x = desk.fresh();
        desk.due("no picture at all", x.lets(0, 0, 0, 0), -1);
        desk.picture("year 9;week 1;", 0);
        desk.picture("year 0;", 1);
        desk.due("the last moment", x.lets(0, 1, 3599, 719), 1);
        desk.due("the first moment", x.lets(1, 0, 0, 0), 1);
        desk.due("not let", x.lets(0, 0, 0, 0), 0);
        int[][] wrong = {{-1, 0, 0, 0}, {2, 0, 0, 0}, {8, 0, 0, 0}, {0, -1, 0, 0}, {0, 2, 0, 0}, {1, 1, 0, 0}, {0, 12, 0, 0}, {0, 0, -1, 0},
            {0, 0, 3600, 0}, {0, 0, 0, -1}, {0, 0, 0, 720}, {0, 0, 3599, 720}, {0, 0, 3600, 719}, {0, 0, -1, 719}, {0, 0, 3599, -1}};
        for (int[] w : wrong) {
            desk.due("lets " + w[0] + " " + w[1] + " " + w[2] + " " + w[3], x.lets(w[0], w[1], w[2], w[3]), -1);
        }
        for (int wild : WILD) {
            desk.due("no such picture", x.lets(wild, 0, 0, 0), -1);
            desk.due("no such sign", x.lets(0, wild, 0, 0), -1);
            desk.due("no such day", x.lets(0, 0, wild, 0), -1);
            desk.due("no such minute", x.lets(0, 0, 0, wild), -1);
        }
    }

    private static void shadow(int post, int month, int minute, int ux, int lx, int uy, int ly) {
        int[] due = {ux, lx, uy, ly};
        PlateDay x = desk.ready(4);
        for (int what = 0; what < 4; what++) {
            desk.due("shadow " + post + " " + month + " " + minute + " " + what, x.shadow(post, month, minute, what), due[what]);
        }
    }

    private static void noShadow(int post, int month, int minute) {
        shadow(post, month, minute, NO_SHADOW, NO_SHADOW, NO_SHADOW, NO_SHADOW);
    }

    private static void sunRows() {
        desk.says("Terms, 2: SUN of a MONTH: .. between two rows one behind the other by shares of MINUTES. Promise 10: -1,000,000: no such SUN");
        desk.fresh("post p 10 10 10;sun 2 100 east 0 north 0;sun 5 300 east 5 north 5;sun 2 200 east 10 north 20;sun 2 201 east 99 north 0;"
            + "sun 2 400 west 99 north 0;sun 0 0 east 7 north 0;sun 11 719 east 0 north 7;sun 3 0 east 0 north 0;sun 3 719 east 0 north 0;");
        noShadow(0, 2, 99);
        shadow(0, 2, 100, 10, 1, 10, 1);
        shadow(0, 2, 101, 101, 10, 51, 5);
        shadow(0, 2, 150, 15, 1, 20, 1);
        shadow(0, 2, 199, 199, 10, 149, 5);
        shadow(0, 2, 200, 20, 1, 30, 1);
        shadow(0, 2, 201, 109, 1, 10, 1);
        shadow(0, 2, 202, 21493, 199, 10, 1);
        shadow(0, 2, 399, -17513, 199, 10, 1);
        shadow(0, 2, 400, -89, 1, 10, 1);
        noShadow(0, 2, 401);
        // One row: just its MINUTE.
        noShadow(0, 5, 299);
        shadow(0, 5, 300, 15, 1, 15, 1);
        noShadow(0, 5, 301);
        shadow(0, 0, 0, 17, 1, 10, 1);
        noShadow(0, 0, 1);
        noShadow(0, 11, 718);
        shadow(0, 11, 719, 10, 1, 17, 1);
        // No rows: other MONTHS' rows are none of its own.
        noShadow(0, 1, 100);
        noShadow(0, 1, 0);
        noShadow(0, 4, 300);
        noShadow(0, 6, 300);
        noShadow(0, 10, 719);
        shadow(0, 3, 0, 10, 1, 10, 1);
        shadow(0, 3, 719, 10, 1, 10, 1);
    }

    private static void sunDirections() {
        desk.says("Terms, 2: A POST's SHADOW: its POINT and HIGH by 10 of that: a fraction for x, y. Terms: HIGH 1 to 20, LONG 0 to 99");
        desk.fresh("post a 0 0 1;post b 31 31 20;post c 5 6 10;sun 0 0 east 99 north 98;sun 0 719 west 99 south 98;sun 1 10 west 0 south 0;"
            + "sun 1 20 east 1 south 1;");
        shadow(0, 0, 0, 99, 10, 49, 5);
        shadow(1, 0, 0, 229, 1, 227, 1);
        shadow(2, 0, 0, 104, 1, 104, 1);
        shadow(0, 0, 719, -99, 10, -49, 5);
        shadow(1, 0, 719, -167, 1, -165, 1);
        shadow(2, 0, 719, -94, 1, -92, 1);
        // 31 and 20 by 10 of 99 less 198 by 719.
        shadow(1, 0, 1, 164255, 719, 162821, 719);
        shadow(0, 1, 10, 0, 1, 0, 1);
        shadow(0, 1, 11, 1, 100, -1, 100);
        shadow(0, 1, 19, 9, 100, -9, 100);
        shadow(1, 1, 15, 32, 1, 30, 1);
    }

    private static void lowestTerms() {
        desk.says("Promise 10: x: the upper number (what 0), the lower one (1), y: (2), (3), in lowest terms (the lower one above 0)");
        desk.fresh("post p 0 0 10;post q 1 2 5;sun 4 100 west 12 south 6;sun 4 112 east 12 north 3;sun 5 0 west 1 south 2;sun 5 7 east 1 north 3;");
        shadow(0, 4, 100, -12, 1, -6, 1);
        shadow(0, 4, 101, -10, 1, -21, 4);
        shadow(0, 4, 102, -8, 1, -9, 2);
        shadow(0, 4, 106, 0, 1, -3, 2);
        shadow(0, 4, 108, 4, 1, 0, 1);
        shadow(0, 4, 111, 10, 1, 9, 4);
        shadow(1, 4, 106, 1, 1, 5, 4);
        shadow(1, 4, 105, 0, 1, 7, 8);
        shadow(0, 5, 1, -5, 7, -9, 7);
        shadow(0, 5, 6, 5, 7, 16, 7);
        shadow(1, 5, 1, 9, 14, 19, 14);
    }

    private static void shadowNone() {
        desk.says("Promise 10: -1,000,000: no such SUN, none such.");
        PlateDay x = desk.fresh();
        desk.due("no post at all", x.shadow(0, 0, 0, 0), NO_SHADOW);
        x = desk.fresh("post p 1 1 1;post q 2 2 2;");
        desk.due("no sun at all", x.shadow(0, 0, 0, 0), NO_SHADOW);
        x = desk.fresh("post p 1 1 10;post q 2 2 10;sun 0 0 east 1 north 1;sun 0 719 east 1 north 1;sun 11 0 east 1 north 1;sun 11 719 east 1 north 1;");
        int[][] right = {{0, 0, 0, 0, 2}, {1, 11, 719, 0, 3}, {1, 0, 719, 3, 1}, {0, 11, 0, 1, 1}};
        for (int[] r : right) {
            desk.due("such a one", x.shadow(r[0], r[1], r[2], r[3]), r[4]);
        }
        int[][] wrong = {{-1, 0, 0, 0}, {2, 0, 0, 0}, {10, 0, 0, 0}, {0, -1, 0, 0}, {0, 12, 0, 0}, {0, 0, -1, 0}, {0, 0, 720, 0}, {0, 0, 0, -1},
            {0, 0, 0, 4}, {0, 1, 0, 0}, {0, 10, 719, 0}};
        for (int[] w : wrong) {
            desk.due("shadow " + w[0] + " " + w[1] + " " + w[2] + " " + w[3], x.shadow(w[0], w[1], w[2], w[3]), NO_SHADOW);
        }
        for (int wild : WILD) {
            desk.due("no such post", x.shadow(wild, 0, 0, 0), NO_SHADOW);
            desk.due("no such month", x.shadow(0, wild, 0, 0), NO_SHADOW);
            desk.due("no such minute", x.shadow(0, 0, wild, 0), NO_SHADOW);
            desk.due("no such what", x.shadow(0, 0, 0, wild), NO_SHADOW);
        }
    }

    private static void noPictures(String call, int[] answers, int due) {
        for (int answer : answers) {
            desk.due(call + ": no such picture", answer, due);
        }
    }

    private static void allNone() {
        desk.says("Promise 11: ALL: how many. NONE: none such.");
        PlateDay x = desk.fresh();
        desk.due("no picture at all", x.all(0), -1);
        desk.picture("year 1;year 2;", 0);
        desk.picture("year 1;", 1);
        desk.due("no moment is no NONE", x.all(0), 0);
        desk.due("the last picture", x.all(1), 360 * 720);
        noPictures("all", new int[] {x.all(-1), x.all(2), x.all(7), x.all(8), x.all(WILD[0]), x.all(WILD[1]), x.all(WILD[2]), x.all(WILD[3])}, -1);
    }

    private static void allMost() {
        desk.says("Terms, 2: ALL of a PICTURE: MOMENTS that all its SIGNS LET. (From none to each one, 3,600 times 720.)");
        PlateDay x = desk.fresh("thing m from 0;post p 1 1 1;thing n from 0 till 0;thing o from 3599;clock c slow 0 fast 0;");
        String[] pictures = {"stands m;shadow p 31 31;", "lacks m;", "stands n;clock c 0;", "stands o;clock c 719;", "clock c 0;clock c 719;",
            "stands n;stands o;", "clock c 0;", "stands o;"};
        int[] due = {2592000, 0, 1, 1, 0, 0, 3600, 720};
        for (int i = 0; i < pictures.length; i++) {
            desk.picture(pictures[i], i);
            desk.due("all of " + pictures[i], x.all(i), due[i]);
        }
        desk.due("the first moment", x.runs(2, 0, 0) + x.runs(2, 0, 1) + x.runs(2, 0, 2), 0);
        desk.due("the last day", x.runs(3, 0, 0), 3599);
        desk.due("the last minute", x.runs(3, 0, 1), 719);
        desk.due("the last minute", x.runs(3, 0, 2), 719);
    }

    private static void allTogether() {
        desk.says("Terms, 2: ALL of a PICTURE: MOMENTS that all its SIGNS LET (each of twelve, the first and the last, too)");
        for (int barring = 0; barring < 12; barring++) {
            PlateDay x = desk.fresh();
            StringBuilder text = new StringBuilder();
            for (int k = 0; k < 12; k++) {
                text.append(k == barring ? "week 1;" : "year 4;");
            }
            desk.picture(text.toString(), 0);
            desk.due("the one sign's days", x.all(0), 720 * 51);
            desk.due("the one sign bars", x.judge(0, 1440, 0), barring);
            desk.due("all let it", x.judge(0, 1443, 0), -1);
        }
    }

    private static void daysFirstToLast() {
        desk.says("Promise 12: DAYS of ALL: how many (k NONE), the k-th.");
        PlateDay x = desk.fresh("thing m from 29 till 30;clock c slow 0 fast 0;thing o from 3599;");
        String[] pictures = {"clock c 5;", "stands m;", "year 9;", "stands o;", "year 1;year 2;", "clock c 5;clock c 6;"};
        int[][] due = {{3600, 0, 3599}, {2, 29, 30}, {360, 3240, 3599}, {1, 3599, 3599}, {0, -1, -1}, {0, -1, -1}};
        for (int i = 0; i < pictures.length; i++) {
            desk.picture(pictures[i], i);
            desk.due("days of " + pictures[i], x.days(i, -1), due[i][0]);
            desk.due("the first", x.days(i, 0), due[i][1]);
            desk.due("the last", x.days(i, Math.max(0, due[i][0] - 1)), due[i][2]);
            desk.due("behind the last", x.days(i, due[i][0]), -1);
        }
        desk.picture("year 0;", 6);
        for (int k : new int[] {0, 1, 28, 29, 30, 31, 58, 59, 60, 358, 359}) {
            desk.due("each day of a year", x.days(6, k), k);
        }
        desk.due("no more of them", x.days(6, 360), -1);
    }

    private static void daysNone() {
        desk.says("Promise 12: NONE: none such.");
        PlateDay x = desk.fresh();
        desk.due("no picture at all", x.days(0, -1), -1);
        desk.picture("year 1;", 0);
        desk.due("the last one", x.days(0, 359), 719);
        desk.due("behind it", x.days(0, 360), -1);
        desk.due("below NONE", x.days(0, -2), -1);
        noPictures("days", new int[] {x.days(-1, -1), x.days(1, -1), x.days(8, 0), x.days(1, 0), x.days(-1, 0)}, -1);
        for (int wild : WILD) {
            desk.due("no such k", x.days(0, wild), -1);
            desk.due("no such picture", x.days(wild, -1), -1);
            desk.due("no such picture", x.days(wild, 0), -1);
        }
    }

    private static void run(int picture, int k, int day, int first, int last) {
        PlateDay x = desk.ready(3);
        desk.due("run " + k + " of " + picture + ": its day", x.runs(picture, k, 0), day);
        desk.due("run " + k + " of " + picture + ": its first minute", x.runs(picture, k, 1), first);
        desk.due("run " + k + " of " + picture + ": its last minute", x.runs(picture, k, 2), last);
    }

    private static void runsOfDays() {
        desk.says("Terms, 2: RUNS: rows of such MINUTES one behind the other on one DAY (not over its end), by DAYS");
        PlateDay x = desk.fresh("thing m from 0;thing n from 29 till 30;thing o from 3599;");
        desk.picture("stands m;", 0);
        desk.picture("stands n;", 1);
        desk.picture("stands o;", 2);
        desk.due("a run a day", x.runs(0, -1, 0), 3600);
        run(0, 0, 0, 0, 719);
        run(0, 1, 1, 0, 719);
        run(0, 3599, 3599, 0, 719);
        run(0, 3600, -1, -1, -1);
        desk.due("two runs", x.runs(1, -1, 0), 2);
        run(1, 0, 29, 0, 719);
        run(1, 1, 30, 0, 719);
        run(1, 2, -1, -1, -1);
        desk.due("one run", x.runs(2, -1, 0), 1);
        run(2, 0, 3599, 0, 719);
        run(2, 1, -1, -1, -1);
    }

    private static void runsOfMinutes() {
        desk.says("Terms, 2: RUNS: .. by DAYS, then by MINUTES.");
        // In MONTH 0 at 10 10 in the first MINUTE and in the last, in MONTH 2 five times for a MINUTE, in MONTH 3 never.
        PlateDay x = desk.fresh("post p 10 10 10;sun 0 0 east 0 north 0;sun 0 1 east 9 north 0;sun 0 718 east 9 north 0;sun 0 719 east 0 north 0;"
            + "sun 2 100 east 0 north 0;sun 2 101 east 9 north 0;sun 2 102 east 0 north 0;sun 2 103 east 9 north 0;sun 2 104 east 0 north 0;"
            + "sun 2 105 east 9 north 0;sun 2 106 east 0 north 0;sun 2 107 east 0 north 0;sun 2 108 east 9 north 0;sun 2 109 east 0 north 0;"
            + "sun 3 5 east 9 north 0;");
        desk.picture("shadow p 10 10;year 0;", 0);
        desk.due("runs", x.runs(0, -1, 0), 2 * 30 + 30 + 5 * 30 + 8 * 30);
        desk.due("all", x.all(0), 2 * 30 + 720 * 30 + 6 * 30 + 8 * 720 * 30);
        run(0, 0, 0, 0, 0);
        run(0, 1, 0, 719, 719);
        run(0, 2, 1, 0, 0);
        run(0, 58, 29, 0, 0);
        run(0, 59, 29, 719, 719);
        run(0, 60, 30, 0, 719);
        run(0, 89, 59, 0, 719);
        run(0, 90, 60, 100, 100);
        run(0, 91, 60, 102, 102);
        run(0, 92, 60, 104, 104);
        run(0, 93, 60, 106, 107);
        run(0, 94, 60, 109, 109);
        run(0, 95, 61, 100, 100);
        run(0, 239, 89, 109, 109);
        run(0, 240, 120, 0, 719);
        run(0, 479, 359, 0, 719);
        run(0, 480, -1, -1, -1);
    }

    private static void runsOfMonths() {
        desk.says("Terms, 2: RUNS: .. by DAYS (each MONTH's DAYS with its own MINUTES, in each YEAR)");
        // MONTH 0 has MINUTE 0, MONTH 1 MINUTE 1 and so on, MONTH 11 has 11 and 13.
        StringBuilder town = new StringBuilder("post p 10 10 10;");
        for (int month = 0; month < 12; month++) {
            town.append("sun ").append(month).append(' ').append(month).append(" east 0 north 0;");
        }
        PlateDay x = desk.fresh(town + "sun 11 12 east 1 north 0;sun 11 13 east 0 north 0;");
        desk.picture("shadow p 10 10;", 0);
        desk.due("runs", x.runs(0, -1, 0), 13 * 300);
        desk.due("all", x.all(0), 13 * 300);
        for (int year : new int[] {0, 1, 9}) {
            for (int month = 0; month < 11; month++) {
                run(0, 390 * year + 30 * month, 360 * year + 30 * month, month, month);
                run(0, 390 * year + 30 * month + 29, 360 * year + 30 * month + 29, month, month);
            }
            run(0, 390 * year + 330, 360 * year + 330, 11, 11);
            run(0, 390 * year + 331, 360 * year + 330, 13, 13);
            run(0, 390 * year + 388, 360 * year + 359, 11, 11);
            run(0, 390 * year + 389, 360 * year + 359, 13, 13);
        }
        run(0, 3900, -1, -1, -1);
        desk.picture("shadow p 10 10;year 9;", 1);
        run(1, 389, 3599, 13, 13);
        run(1, 390, -1, -1, -1);
    }

    private static void runsEnds() {
        desk.says("Promise 13: RUNS: .. of the k-th its DAY (what 0), first MINUTE (1), last (2).");
        PlateDay x = desk.fresh("clock c slow 1 fast 1;");
        int[] minutes = {0, 1, 29, 30, 31, 718, 719, 360};
        for (int i = 0; i < 8; i++) {
            desk.picture("clock c " + minutes[i] + ";year 9;", i);
            run(i, 0, 3240, Math.max(0, minutes[i] - 1), Math.min(719, minutes[i] + 1));
            run(i, 359, 3599, Math.max(0, minutes[i] - 1), Math.min(719, minutes[i] + 1));
            run(i, 360, -1, -1, -1);
            desk.due("a run a day", x.runs(i, -1, 0), 360);
        }
    }

    private static void runsNone() {
        desk.says("Promise 13: RUNS: how many (k NONE, what 0) .. NONE: none such.");
        PlateDay x = desk.fresh();
        desk.due("no picture at all", x.runs(0, -1, 0), -1);
        desk.picture("year 1;", 0);
        desk.picture("year 1;year 2;", 1);
        desk.due("no run is no NONE", x.runs(1, -1, 0), 0);
        for (int what = 0; what < 3; what++) {
            desk.due("no first run", x.runs(1, 0, what), -1);
            desk.due("behind the last", x.runs(0, 360, what), -1);
            desk.due("below NONE", x.runs(0, -2, what), -1);
            noPictures("runs", new int[] {x.runs(-1, -1, what), x.runs(2, -1, what), x.runs(8, 0, what), x.runs(-1, 0, what)}, -1);
        }
        for (int what : new int[] {1, 2, 3, -1, WILD[0], WILD[3]}) {
            desk.due("counted by what 0 alone", x.runs(0, -1, what), -1);
        }
        for (int what : new int[] {3, 4, -1, -2, WILD[0], WILD[3]}) {
            desk.due("no such what", x.runs(0, 0, what), -1);
            desk.due("no such what", x.runs(0, 359, what), -1);
        }
        for (int wild : WILD) {
            desk.due("no such k", x.runs(0, wild, 0), -1);
            desk.due("no such picture", x.runs(wild, -1, 0), -1);
        }
        desk.due("the last one", x.runs(0, 359, 0), 719);
    }

    private static void judgeFirst() {
        desk.says("Promise 14: The first SIGN that doesn't LET a MOMENT. NONE: all do");
        PlateDay x = desk.fresh("clock c slow 5 fast 3;");
        desk.picture("year 1;week 3;year 1;clock c 300;week 3;", 0);
        desk.due("all do", x.judge(0, 360, 300), -1);
        desk.due("all do at the first minute", x.judge(0, 360, 297), -1);
        desk.due("all do at the last minute", x.judge(0, 360, 305), -1);
        desk.due("a minute ahead", x.judge(0, 360, 296), 3);
        desk.due("a minute behind", x.judge(0, 360, 306), 3);
        desk.due("another weekday", x.judge(0, 361, 300), 1);
        desk.due("another weekday goes ahead of the clock", x.judge(0, 361, 0), 1);
        desk.due("another year goes ahead of all", x.judge(0, 359, 0), 0);
        desk.due("the year's last weekday 3", x.judge(0, 717, 300), -1);
        desk.due("another year", x.judge(0, 724, 300), 0);
    }

    private static void judgeNone() {
        desk.says("Promise 14: -2: none such. Terms: DAYS 0 to 3,599, MINUTES 0 to 719");
        PlateDay x = desk.fresh();
        desk.due("no picture at all", x.judge(0, 0, 0), -2);
        desk.picture("week 0;", 0);
        desk.due("the first moment", x.judge(0, 0, 0), -1);
        desk.due("the last moment", x.judge(0, 3599, 719), 0);
        int[][] wrong = {{-1, 0, 0}, {1, 0, 0}, {8, 0, 0}, {0, -1, 0}, {0, 3600, 0}, {0, 0, -1}, {0, 0, 720}, {0, 3600, 719}, {0, 3599, 720},
            {WILD[0], 0, 0}, {WILD[3], 0, 0}, {0, WILD[0], 0}, {0, WILD[3], 0}, {0, 0, WILD[0]}, {0, 0, WILD[3]}};
        for (int[] w : wrong) {
            desk.due("judge " + w[0] + " " + w[1] + " " + w[2], x.judge(w[0], w[1], w[2]), -2);
        }
    }
}
