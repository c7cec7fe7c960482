/** Promises 25 to 27, and how long an object is used: each sentence that names a boundary, on both its sides. */
public final class EdgeKeepTest {
    private static final Desk desk = new Desk("EdgeKeepTest");
    private static final int LAST_CALL = 512;
    private static PlateDay x;

    public static void main(String[] args) {
        fourImages();
        imagesOfNothing();
        fifthImage();
        noSuchImage();
        picturesAsTheyWere();
        weightsAsTheyWere();
        imagesStay();
        onlyPicturesAndWeights();
        imagesApart();
        backInFull();
        countsOfTowns();
        countsOfBytes();
        countsOfSigns();
        countsOfWeights();
        countsNone();
        lastCallAsks();
        lastCallTells();
        desk.close();
    }

    private static void fourImages() {
        desk.says("Promise 25: An IMAGE: its number. Terms, 2: IMAGES, up to 4: PICTURES and weights as they are");
        x = desk.fresh("thing m from 100 till 200;");
        for (int i = 0; i < 4; i++) {
            desk.due("images", x.count(3), i);
            desk.due("no such one yet", x.back(i), false);
            desk.picture("year " + i + ";", i);
            desk.due("a weight", x.weight(i, 50 + i), true);
            desk.due("its number", x.image(), i);
        }
        desk.due("images", x.count(3), 4);
        for (int i = 3; i >= 0; i--) {
            desk.due("brought back", x.back(i), true);
            desk.due("its pictures", x.count(1), i + 1);
            desk.due("its last one", x.sign(i, 0, 1), i);
            desk.due("no more", x.all(i + 1), -1);
            desk.due("its last weight", x.count(10 + i), 50 + i);
            desk.due("no more", x.count(11 + i), 1);
        }
        for (int i = 0; i < 4; i++) {
            desk.due("and the other way round", x.back(i), true);
            desk.due("its pictures", x.count(1), i + 1);
        }
    }

    private static void imagesOfNothing() {
        desk.says("Promise 25: An IMAGE (of no PICTURES, ahead of a TOWN, too)");
        x = desk.fresh();
        desk.due("of nothing", x.image(), 0);
        desk.picture("year 1;", 0);
        desk.due("a weight", x.weight(0, 0), true);
        desk.due("of one", x.image(), 1);
        desk.due("of the same", x.image(), 2);
        desk.due("back to nothing", x.back(0), true);
        desk.due("no picture", x.count(1), 0);
        desk.due("no sign", x.count(4), 0);
        desk.due("none", x.all(0), -1);
        desk.due("weight 1", x.count(10), 1);
        desk.due("back to one", x.back(2), true);
        desk.due("its days", x.days(0, 0), 360);
        desk.due("weight 0", x.count(10), 0);
    }

    private static void fifthImage() {
        desk.says("Promise 25: NONE: 4 are there.");
        x = desk.fresh("thing m from 100 till 200;");
        for (int i = 0; i < 4; i++) {
            desk.picture("year " + i + ";", i);
            desk.due("its number", x.image(), i);
        }
        desk.picture("stands m;", 4);
        desk.due("a weight", x.weight(6, 66), true);
        desk.due("four", x.count(3), 4);
        desk.due("a fifth", x.image(), -1);
        desk.due("a sixth", x.image(), -1);
        desk.due("four still", x.count(3), 4);
        desk.due("no fifth", x.back(4), false);
        desk.due("five pictures", x.count(1), 5);
        // None of the four was put out of its place.
        for (int i = 0; i < 4; i++) {
            desk.due("brought back", x.back(i), true);
            desk.due("its pictures", x.count(1), i + 1);
            desk.due("weight 1", x.count(16), 1);
        }
        desk.due("a fifth when one was brought back", x.image(), -1);
        desk.due("a town", x.town(0), 0);
        for (int i = 0; i < 4; i++) {
            desk.due("four again", x.image(), i);
        }
        desk.due("no fifth", x.image(), -1);
    }

    private static void noSuchImage() {
        desk.says("Promise 26: false: none such. (All is as it was then.)");
        x = desk.fresh("thing m from 100 till 200;");
        desk.due("none at all", x.back(0), false);
        desk.picture("stands m;", 0);
        desk.due("the first", x.image(), 0);
        desk.picture("year 1;", 1);
        desk.due("the second", x.image(), 1);
        desk.picture("year 2;", 2);
        desk.due("a weight", x.weight(6, 66), true);
        desk.feed("year 3;");
        desk.keep();
        for (int image : new int[] {-1, 2, 3, 4, 5, Integer.MIN_VALUE, Integer.MAX_VALUE}) {
            desk.due("no such image " + image, x.back(image), false);
        }
        desk.same("a refused back");
        desk.due("the last one", x.back(1), true);
        desk.due("two pictures", x.count(1), 2);
        desk.due("the first one", x.back(0), true);
        desk.due("one picture", x.count(1), 1);
    }

    private static void picturesAsTheyWere() {
        desk.says("Promise 26: All is as in an IMAGE: true. (PICTURES that came behind it are gone, more SIGNS, too.)");
        x = desk.fresh("thing m from 100 give 3 till 200;post a 1 0 1;post b 2 0 1;clock c slow 1 fast 1;");
        desk.picture("stands m;", 0);
        desk.picture("before a b;", 1);
        desk.due("an image", x.image(), 0);
        desk.keep();
        desk.more(0, "year 5;clock c 5;week 1;", 4);
        desk.more(1, "before b a;", 2);
        desk.picture("year 6;", 2);
        desk.due("no moments", x.all(0), 0);
        desk.due("no points", x.stood(1, false, -1), 0);
        desk.due("back", x.back(0), true);
        desk.same("what came behind an image");
        desk.due("moments", x.all(0), 720 * 104);
        desk.due("days", x.days(0, -1), 104);
        desk.due("the first", x.days(0, 0), 97);
        desk.due("runs", x.runs(0, -1, 0), 104);
        desk.due("a run's end", x.runs(0, 103, 2), 719);
        desk.due("quarrel", x.quarrel(0), 0);
        desk.due("points", x.stood(1, false, -1), 1);
        desk.due("judge", x.judge(0, 97, 0), -1);
        desk.due("late", x.late(0, 1), 720 * 105);
        desk.due("cloud", x.cloud(3, 0), 720 * 104);
        desk.due("none such", x.cloud(7, 0), -1);
        desk.due("no second sign", x.sign(0, 1, 0), -1);
        desk.more(0, "week 2;", 2);
        desk.due("behind the first", x.sign(0, 1, 0), 6);
        desk.picture("year 7;", 2);
    }

    private static void weightsAsTheyWere() {
        desk.says("Promise 26: All is as in an IMAGE (each MONTH's weight, too)");
        x = desk.fresh();
        desk.picture("year 1;", 0);
        for (int month = 0; month < 12; month++) {
            desk.due("weight", x.weight(month, 30 + month), true);
        }
        desk.due("an image", x.image(), 0);
        for (int month = 0; month < 12; month++) {
            desk.due("weight", x.weight(month, 99 - month), true);
        }
        desk.due("an image", x.image(), 1);
        desk.due("back", x.back(0), true);
        for (int month = 0; month < 12; month++) {
            desk.due("weight of " + month, x.count(10 + month), 30 + month);
        }
        desk.due("the last month's day", x.likely(0, 0), 360 + 330);
        desk.due("back", x.back(1), true);
        for (int month = 0; month < 12; month++) {
            desk.due("weight of " + month, x.count(10 + month), 99 - month);
        }
        desk.due("the first month's day", x.likely(0, 0), 360);
    }

    private static void imagesStay() {
        desk.says("Terms, 2: IMAGES .. brought back at any time. (None is gone by it, neither itself nor a later one.)");
        x = desk.fresh();
        desk.due("of nothing", x.image(), 0);
        desk.picture("year 1;", 0);
        desk.due("of one", x.image(), 1);
        desk.picture("year 2;", 1);
        desk.due("of two", x.image(), 2);
        for (int i : new int[] {0, 2, 0, 1, 1, 0, 2, 2, 1}) {
            desk.due("back", x.back(i), true);
            desk.due("its pictures", x.count(1), i);
            desk.due("images", x.count(3), 3);
        }
        desk.due("the next number", x.image(), 3);
        desk.due("the last one", x.back(3), true);
        desk.due("of one", x.count(1), 1);
        desk.due("of two", x.back(2), true);
        desk.due("two", x.count(1), 2);
    }

    private static void onlyPicturesAndWeights() {
        desk.says("Terms, 2: IMAGES, up to 4: PICTURES and weights as they are (neither the tape nor the TOWN, a FAULT or counts)");
        x = desk.fresh("thing m from 100 till 200;");
        desk.town("thing n from 7 give 3;", 1);
        desk.due("of nothing", x.image(), 0);
        desk.picture("stands n;", 0);
        desk.badPicture("year x;", 5);
        desk.feed("year 1;year 2;");
        desk.due("back", x.back(0), true);
        desk.due("the tape", x.count(2), 20);
        desk.due("the fault", x.fault(), 5);
        desk.due("towns taken", x.count(0), 2);
        desk.due("the town", x.told(100), 7);
        desk.due("images", x.count(3), 1);
        desk.due("what is on the tape", x.picture(14), 0);
        desk.due("its signs", x.count(4), 2);
        desk.due("another image leaves the tape", x.feed(0x20202020, 0x20202020, 0x20202020, 0x20202020, 0x20202020), 20);
        desk.due("an image", x.image(), 1);
        desk.due("the tape", x.count(2), 20);
        desk.due("no fault", x.fault(), -1);
    }

    private static void imagesApart() {
        desk.says("Terms, 2: PICTURES and weights as they are (what comes behind it changes no IMAGE)");
        x = desk.fresh("thing m from 100 till 200;");
        desk.picture("stands m;", 0);
        desk.due("an image", x.image(), 0);
        desk.more(0, "week 1;", 2);
        desk.due("a weight", x.weight(0, 50), true);
        desk.due("back", x.back(0), true);
        desk.more(0, "week 2;year 0;", 3);
        desk.due("a weight", x.weight(0, 60), true);
        desk.due("another image", x.image(), 1);
        desk.more(0, "year 1;", 4);
        desk.due("back to the first", x.back(0), true);
        desk.due("one sign", x.count(4), 1);
        desk.due("weight 1", x.count(10), 1);
        desk.due("its moments", x.all(0), 720 * 101);
        desk.due("back to the second", x.back(1), true);
        desk.due("three signs", x.count(4), 3);
        desk.due("weight 60", x.count(10), 60);
        desk.due("its moments", x.all(0), 720 * 15);
        desk.due("its second sign", x.sign(0, 1, 1), 2);
    }

    private static void backInFull() {
        desk.says("Terms, 2: IMAGES, up to 4: PICTURES (up to 8 of up to 12 SIGNS each)");
        x = desk.fresh("thing m from 100 till 200;");
        for (int i = 0; i < 8; i++) {
            desk.picture("lacks m;".repeat(11) + "year " + i + ";", i);
        }
        desk.due("an image", x.image(), 0);
        desk.due("a town", x.town(0), 0);
        desk.due("images are gone", x.back(0), false);
        x = desk.fresh("thing m from 100 till 200;");
        desk.due("of nothing", x.image(), 0);
        for (int i = 0; i < 8; i++) {
            desk.picture("lacks m;".repeat(11) + "year " + i + ";", i);
        }
        desk.due("of all", x.image(), 1);
        desk.due("back to nothing", x.back(0), true);
        desk.due("none", x.count(4), 0);
        desk.due("back to all", x.back(1), true);
        desk.due("all", x.count(4), 96);
        for (int i = 0; i < 8; i++) {
            desk.due("its last sign", x.sign(i, 11, 1), i);
            desk.due("its moments", x.all(i), 720 * (i == 0 ? 259 : 360));
        }
        desk.feed("year 1;");
        desk.due("eight are there", x.picture(7), -3);
        desk.due("twelve are there", x.more(7, 7), -1);
    }

    private static void countsOfTowns() {
        desk.says("Promise 27: 0 TOWNS taken, 1 PICTURES, .. 3 IMAGES");
        x = desk.fresh();
        desk.due("no towns", x.count(0), 0);
        desk.town("thing m from 1;", 1);
        desk.due("one", x.count(0), 1);
        desk.badTown("thing", 5);
        desk.due("one still", x.count(0), 1);
        desk.due("refused", x.town(1), -2);
        desk.due("one still", x.count(0), 1);
        desk.town("", 0);
        desk.due("two", x.count(0), 2);
        desk.picture("week 1;", 0);
        desk.badPicture("week", 4);
        desk.due("one picture", x.count(1), 1);
        desk.due("an image", x.image(), 0);
        desk.due("one image", x.count(3), 1);
        desk.picture("week 1;", 1);
        desk.due("two pictures", x.count(1), 2);
        desk.due("back", x.back(0), true);
        desk.due("one picture", x.count(1), 1);
        desk.due("one image", x.count(3), 1);
        desk.due("two towns", x.count(0), 2);
        desk.town("", 0);
        desk.due("no picture", x.count(1), 0);
        desk.due("no image", x.count(3), 0);
    }

    private static void countsOfBytes() {
        desk.says("Promise 27: 2 bytes on the tape");
        x = desk.fresh();
        for (int i = 0; i <= 60; i++) {
            desk.due("bytes", x.count(2), 20 * i);
            desk.due("feed", x.feed(0x20202020, 0x20202020, 0x20202020, 0x20202020, 0x20202020), i < 60 ? 20 * i + 20 : -1);
        }
        desk.due("full", x.count(2), 1200);
        desk.due("refused", x.picture(1201), -2);
        desk.due("full", x.count(2), 1200);
        desk.due("a fault", x.picture(1), -1);
        desk.due("empty", x.count(2), 0);
        desk.feed("week 1;");
        desk.due("one feed", x.count(2), 20);
        desk.due("taken", x.picture(7), 0);
        desk.due("empty", x.count(2), 0);
        desk.feed("week 2;");
        desk.due("taken", x.more(0, 7), 2);
        desk.due("empty", x.count(2), 0);
    }

    private static void countsOfSigns() {
        desk.says("Promise 27: 4 SIGNS in all");
        x = desk.fresh();
        int signs = 0;
        for (int i = 0; i < 8; i++) {
            desk.picture("week 1;".repeat(i + 1), i);
            signs += i + 1;
            desk.due("signs", x.count(4), signs);
        }
        for (int i = 0; i < 8; i++) {
            desk.more(i, "week 2;".repeat(11 - i), 12);
            signs += 11 - i;
            desk.due("signs", x.count(4), signs);
        }
        desk.due("8 times 12", x.count(4), 96);
        desk.badMore(3, "week 1;", 0);
        desk.due("8 times 12", x.count(4), 96);
    }

    private static void countsOfWeights() {
        desk.says("Promise 27: 10 + m the weight of MONTH m.");
        x = desk.fresh();
        for (int month = 0; month < 12; month++) {
            desk.due("weight 1", x.count(10 + month), 1);
            desk.due("weight", x.weight(month, 88 + month), true);
            desk.due("weight", x.count(10 + month), 88 + month);
        }
        desk.due("no month", x.count(9), -1);
        desk.due("no month", x.count(22), -1);
        desk.due("the first", x.count(10), 88);
        desk.due("the last", x.count(21), 99);
        desk.due("weight 0", x.weight(11, 0), true);
        desk.due("is no NONE", x.count(21), 0);
    }

    private static void countsNone() {
        desk.says("Promise 27: NONE for others.");
        x = desk.fresh("thing m from 1;");
        desk.picture("week 1;week 2;", 0);
        for (int what = -20; what < 50; what++) {
            int due = what >= 10 && what < 22 ? 1 : what == 0 || what == 1 ? 1 : what == 4 ? 2 : what == 2 || what == 3 ? 0 : -1;
            desk.due("count " + what, x.count(what), due);
        }
        for (int what : new int[] {Integer.MIN_VALUE, Integer.MIN_VALUE + 10, Integer.MAX_VALUE, Integer.MAX_VALUE - 10}) {
            desk.due("count " + what, x.count(what), -1);
        }
    }

    private static void lastCallAsks() {
        desk.says("An object is used for at most 512 calls after it has been made");
        for (int what = 0; what < 3; what++) {
            x = desk.fresh();
            desk.picture("week 1;", 0);
            // Three calls were made: feed, picture, fault.
            for (int call = 4; call < LAST_CALL; call++) {
                switch (what) {
                    case 0 -> desk.due("call " + call, x.quarrel(0), 0);
                    case 1 -> desk.due("call " + call, x.back(call == 4 ? x.image() : 0), true);
                    default -> desk.due("call " + call, x.feed(1, 2, 3, 4, 5), call < 64 ? 20 * (call - 3) : -1);
                }
                call += what == 1 && call == 4 ? 1 : 0;
            }
            desk.due("the 512th", x.all(0), 720 * 515);
        }
    }

    private static void lastCallTells() {
        desk.says("An object is used for at most 512 calls after it has been made");
        x = desk.fresh();
        for (int call = 1; call < LAST_CALL; call++) {
            desk.due("call " + call, x.town(0), 0);
        }
        desk.due("towns taken", x.count(0), 511);
        x = desk.fresh();
        desk.due("a feed", x.feed(0x7765656b, 0x20313b20, 0x20202020, 0x20202020, 0x20202020), 20);
        desk.due("a picture", x.picture(20), 0);
        for (int call = 3; call + 1 < LAST_CALL; call += 2) {
            desk.due("a feed", x.feed(0x7765656b, 0x20313b20, 0x20202020, 0x20202020, 0x20202020), 20);
            desk.due("more", x.more(0, 20), call < 25 ? (call + 1) / 2 : -1);
        }
        desk.due("twelve", x.count(4), 12);
        desk.due("the 512th", x.fault(), 0);
    }
}
