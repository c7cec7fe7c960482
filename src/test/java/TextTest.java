/** Promises 1 to 8: the tape, texts and their faults, and what was told. */
public final class TextTest {
    private static final Desk desk = new Desk("TextTest");
    private static final String TOWN = "thing m from 1;post p 1 1 1;post q 2 2 2;clock c slow 0 fast 0;tree e leaf 1 bare 2;";

    public static void main(String[] args) {
        newObject();
        tape();
        townTexts();
        townFaults();
        endedTooSoon();
        otherWords();
        limits();
        sixtyFirst();
        pictureTexts();
        pictureFaults();
        moreSigns();
        faultStays();
        toldNumbers();
        signNumbers();
        desk.close();
    }

    private static void newObject() {
        PlateDay x = desk.fresh();
        for (int i = -1; i < 300; i++) {
            desk.due("new told " + i, x.told(i), i >= 0 && i <= 5 ? 0 : -1);
        }
        for (int i = -2; i < 30; i++) {
            desk.due("new count " + i, x.count(i), i >= 0 && i <= 4 ? 0 : i >= 10 && i <= 21 ? 1 : -1);
        }
        desk.due("new fault", x.fault(), -1);
        desk.due("new all", x.all(0), -1);
        desk.due("new back", x.back(0), false);
        desk.due("new shadow", x.shadow(0, 0, 0, 0), -1000000);
        desk.badPicture("stands mill;", 7);
        desk.picture("week 3;", 0);
        desk.due("a picture that needs no town", x.all(0), 720 * 514);
        desk.due("the constant", PlateDay.NONE, -1);
    }

    private static void tape() {
        PlateDay x = desk.fresh();
        for (int i = 1; i <= 60; i++) {
            desk.due("feed " + i, x.feed(0, 0, 0, 0, 0), 20 * i);
        }
        desk.due("a full tape", x.feed(0, 0, 0, 0, 0), -1);
        desk.due("stays full", x.count(2), 1200);
        desk.due("a strange byte", x.town(1200), -1);
        desk.due("its place", x.fault(), 0);
        desk.due("a tape read is empty", x.count(2), 0);
        // "week", " 3; ", then bytes that only an unsigned view tells apart
        desk.due("feed again", x.feed(0x7765656b, 0x20333b20, 0x0a0a2020, 0x80ff0001, 0xffffffff), 20);
        desk.due("highest first", x.picture(12), 0);
        x.feed(0x7765656b, 0x20333b20, 0x0a0a2020, 0x80ff0001, 0xffffffff);
        desk.due("a byte of 128", x.picture(20), -1);
        desk.due("is at 12", x.fault(), 12);
        x.feed(0x20202020, 0x20202020, 0x20202020, 0x20202020, 0x2020200d);
        desk.due("byte 13 is no blank", x.town(20), -1);
        desk.due("it's at 19", x.fault(), 19);
    }

    private static void townTexts() {
        PlateDay x = desk.fresh();
        desk.due("no bytes are a town", x.town(0), 0);
        desk.due("it's taken", x.count(0), 1);
        desk.due("below 0", x.town(-1), -2);
        desk.due("more than there are", x.town(1), -2);
        desk.town(" \n ", 0);
        desk.town("thing mill from0give 99till 3599give 0;tree elm leaf 359bare 0;post p 31 0 20;clock c slow 99fast 0;"
            + "sun 11 719west 99south 99;", 5);
        desk.due("towns taken", x.count(0), 3);
        desk.town("thing a from 0001;thing b\nfrom \n\n 1 ; ;".replace(" ; ;", " ;"), 2);
        desk.feed("thing a from 1;thing b from 2;");
        desk.due("just the first bytes", x.town(15), 1);
        desk.due("but the tape is empty", x.count(2), 0);
        desk.feed("thing a from 1;");
        desk.due("refused", x.town(21), -2);
        desk.due("refused, too", x.town(Integer.MIN_VALUE), -2);
        desk.due("the tape stays", x.count(2), 20);
        desk.due("the town stays", x.told(5), 1);
        x.town(15);

        desk.picture("lacks a;", 0);
        x.weight(3, 7);
        x.image();
        desk.badTown("thing a from", 12);
        desk.due("a fault leaves pictures", x.count(1), 1);
        desk.due("a fault leaves images", x.count(3), 1);
        desk.due("a fault leaves weights", x.count(13), 7);
        desk.due("a fault leaves the town", x.told(0), 1);
        desk.due("a fault takes no town", x.count(0), 6);
        desk.town("thing b from 5;", 1);
        desk.due("pictures are gone", x.count(1), 0);
        desk.due("images are gone", x.count(3), 0);
        desk.due("no image to bring back", x.back(0), false);
        desk.due("weights are 1", x.count(13), 1);
        desk.badPicture("lacks a;", 6);
    }

    private static void townFaults() {
        desk.fresh("thing z from 7;");
        String[] texts = {
            "?", "@", "A", "thinga b", "things", "sun;", "sun", "12", ";", "thing a from 1;;", "thing a from 1 thing",
            "thing 5", "thing abcdefghi", "thing abcdefgh,", "thing sun", "thing stands", "thing left", "thing a till 5", "thing a from x",
            "thing a from 3600", "thing a from 00001", "thing a from -1", "thing a from 1 give 100;", "thing a from 1 give;",
            "thing a from 1 give 5 give 6;", "thing a from 9 till 8;", "thing a from 9 till 3600;", "thing a from 9 till 9 till 10;",
            "thing a from 9 give 1 till 9 give 100;", "thing a from 9 till 9 give",
            "tree a bare 1", "tree a leaf 360", "tree a leaf 1 bare 360;", "tree a leaf 7 bare 007;", "tree a leaf 7 leaf 8",
            "post a 32", "post a 31 32", "post a 31 31 0", "post a 31 31 21", "post a 31 31 20 1", "post a 1 1",
            "clock a fast 1", "clock a slow 100", "clock a slow 1 slow 2", "clock a slow 1 fast 100", "clock a slow 1 fast 9",
            "sun 12", "sun 0 720", "sun 0 0 up", "sun 0 0 east 100", "sun 0 0 east 1 east 1", "sun 0 0 north 1", "sun 0 0 east 1 south 100",
            "sun 0 5 east 1 north 1;sun 0 5 east 1 north 1;", "sun 0 5 east 1 north 1;sun 0 4 ", "sun 0 719 east 1 north 1;sun 0 719",
            "thing a from 1;tree a leaf 1 bare 2;", "post a 1 1 1;clock a slow", "clock b slow 1 fast 1;post b 1 1 1;",
            "tree t leaf 1 bare 2;thing t from"};
        int[] places = {
            0, 0, 0, 0, 0, 3, 3, 0, 0, 15, 15,
            6, 6, 14, 6, 6, 6, 8, 13,
            13, 13, 13, 20, 19,
            22, 20, 20, 22,
            34, 26,
            7, 12, 19, 19, 14,
            7, 10, 13, 13, 16, 10,
            8, 13, 15, 20, 21,
            4, 6, 8, 13, 15, 8, 21,
            29, 29, 31,
            20, 19, 27,
            27};
        for (int i = 0; i < texts.length; i++) {
            desk.badTown(texts[i], places[i]);
        }
        String[] words = {"thing", "from", "give", "till", "tree", "leaf", "bare", "post", "clock", "slow", "fast", "sun", "east", "west",
            "north", "south", "stands", "lacks", "shadow", "week", "year", "before", "left"};
        for (String word : words) {
            desk.fresh();
            desk.badTown("thing " + word + " from 1;", 6);
            if (word.length() < 8) {
                desk.town("thing " + word + "x from 1;", 1);
            }
            desk.town("thing " + word.substring(1) + "q from 1;", 1);
            desk.town("thing " + word.substring(0, word.length() - 1) + " from 1;", 1);
        }
    }

    /** Texts with a semicolon, or their end, where one more token must come, or one that is no such token. */
    private static void endedTooSoon() {
        desk.fresh(TOWN);
        String[] statements = {"thing a from 5", "thing a from 5 give 5", "thing a from 5 till 6", "thing a from 5 till 6 give 7",
            "tree a leaf 1 bare 2", "post a 1 2 3", "clock a slow 1 fast 2", "sun 1 2 east 98 north 98", "sun 1 2 west 98 south 98"};
        for (String statement : statements) {
            for (int blank = statement.lastIndexOf(' '); blank > 0; blank = statement.lastIndexOf(' ', blank - 1)) {
                String start = statement.substring(0, blank);
                if (!start.endsWith("5") && !start.endsWith("6")) {
                    desk.badTown(start, blank);
                    desk.badTown(start + " ;", blank + 1);
                    desk.badTown(start + " \t;", blank + 1);
                }
            }
        }
        desk.due("no town of these", desk.now().count(0), 1);
        String[] signs = {"stands m", "lacks m", "leaf e", "bare e", "shadow p 31 31", "shadow p 31 31 give 9", "clock c 5", "week 5", "year 5",
            "before p q", "left p q"};
        for (String sign : signs) {
            for (int blank = sign.lastIndexOf(' '); blank > 0; blank = sign.lastIndexOf(' ', blank - 1)) {
                String start = sign.substring(0, blank);
                if (!start.endsWith("31 31")) {
                    desk.badPicture(start, blank);
                    desk.badPicture(start + " ;", blank + 1);
                    desk.badPicture(start + " \t;", blank + 1);
                }
            }
        }
        desk.due("no picture of these", desk.now().count(1), 0);
        for (String sign : signs) {
            desk.fresh(TOWN);
            desk.picture(sign + ";", 0);
        }
        for (String statement : statements) {
            desk.fresh();
            desk.town(statement + ";", 1);
        }
    }

    /** Words that are those of the texts but for one letter. */
    private static void otherWords() {
        desk.fresh(TOWN);
        String[] statements = {"thing a from 5 give 5 till 6", "tree a leaf 1 bare 2", "clock a slow 1 fast 2", "sun 1 2 east 3 north 4",
            "sun 1 2 west 3 south 4", "post a 1 2 3"};
        for (String statement : statements) {
            misspell(statement, true);
        }
        String[] signs = {"stands m", "lacks m", "leaf e", "bare e", "shadow p 1 2 give 3", "clock c 5", "week 5", "year 5", "before p q", "left p q"};
        for (String sign : signs) {
            misspell(sign, false);
        }
        desk.due("no town of these", desk.now().count(0), 1);
    }

    private static void misspell(String text, boolean isTown) {
        int at = 0;
        for (String word : text.split(" ")) {
            for (int i = 0; i < word.length() && word.length() > 2; i++) {
                int place = at;
                String other = text.substring(0, at + i) + 'z' + text.substring(at + i + 1) + ";";
                if (isTown) {
                    desk.badTown(other, place);
                } else {
                    desk.badPicture(other, place);
                }
            }
            at += word.length() + 1;
        }
    }

    private static void limits() {
        desk.fresh();
        desk.town(Texts.many("thing x# from 1;", 12), 12);
        desk.badTown(Texts.many("thing x# from 1;", 12) + "thing y from 1;", 12 * 16 + 6);
        desk.town(Texts.many("tree t# leaf 1 bare 2;", 6), 6);
        desk.badTown(Texts.many("tree t# leaf 1 bare 2;", 6) + "tree y leaf 1 bare 2;", 6 * 22 + 5);
        desk.town(Texts.many("post p# 1 1 1;", 10), 10);
        desk.badTown(Texts.many("post p# 1 1 1;", 10) + "post y 1 1 1;", 10 * 14 + 5);
        desk.town(Texts.many("clock c# slow 1 fast 1;", 4), 4);
        desk.badTown(Texts.many("clock c# slow 1 fast 1;", 4) + "clock y slow 1 fast 1;", 4 * 23 + 6);
        String suns = Texts.many("sun 0 %east0north0;", 40);
        desk.town(suns, 40);
        desk.badTown(suns + "sun 1 1 east 0 north 0;", suns.length() + 4);
        desk.badTown(suns + "sun", suns.length() + 3);
        desk.badTown(suns + "sun;", suns.length() + 3);
        desk.badTown(Texts.many("thing x# from 1;", 12) + "thing", 12 * 16 + 5);
    }

    private static void sixtyFirst() {
        PlateDay x = desk.fresh();
        String sixty = Texts.many("thing x# from1;", 12) + Texts.many("post p# 1 1 1;", 8) + Texts.many("sun 0 %east0north0;", 40);
        desk.town(sixty, 60);
        desk.due("statements", x.told(5), 60);
        desk.town(sixty + " \n", 60);
        desk.badTown(sixty + " tree t leaf 1 bare 2;", sixty.length() + 1);
        desk.badTown(sixty + ";", sixty.length());
        desk.badTown(sixty + "sun 1", sixty.length());
    }

    private static void pictureTexts() {
        PlateDay x = desk.fresh(TOWN);
        for (int i = 0; i < 7; i++) {
            desk.picture("week " + i + ";", i);
        }
        desk.due("below 0", x.picture(-1), -2);
        desk.feed("week 1;week 2;");
        desk.due("more than there are", x.picture(21), -2);
        desk.due("just the first bytes", x.picture(7), 7);
        desk.due("eight", x.count(1), 8);
        desk.due("the tape is empty", x.count(2), 0);
        desk.feed("week 1;");
        desk.due("a ninth", x.picture(7), -3);
        desk.due("a ninth, whatever the text", x.picture(3), -3);
        desk.due("a ninth, no text", x.picture(0), -3);
        desk.due("not so many bytes goes ahead", x.picture(21), -2);
        desk.due("below 0 goes ahead", x.picture(-1), -2);
        desk.due("the tape stays", x.count(2), 20);
        desk.due("eight still", x.count(1), 8);
        desk.due("signs in all", x.count(4), 8);
    }

    private static void pictureFaults() {
        desk.fresh(TOWN);
        String[] texts = {
            "", "  \n", ";", "week", "week 7", "week 1", "week 1 2", "week 1;;", "year 10;", "year m", "stands", "stands p;", "stands 1",
            "stands stands;", "lacks e;", "leaf m;", "bare c;", "shadow m", "shadow p 32", "shadow p 1 32", "shadow p 1 1 give 100",
            "shadow p 1 1 give;", "shadow p 1;", "clock p 1", "clock c 720", "clock c;", "before p p;", "before q m", "left p p;", "left p q q",
            "before p 1", "thing m from 1;", "STANDS", "week 1;\u00e9"};
        int[] places = {
            0, 3, 0, 4, 5, 6, 7, 7, 5, 5, 6, 7, 7,
            7, 6, 5, 5, 7, 9, 11, 18,
            17, 10, 6, 8, 7, 9, 9, 7, 9,
            9, 0, 0, 7};
        for (int i = 0; i < texts.length; i++) {
            desk.badPicture(texts[i], places[i]);
        }
        desk.badPicture("shadow 5;", 7);
        desk.badPicture("shadow 5 6;", 7);
        desk.badPicture("clock 5;", 6);
        desk.badPicture("before 5 p;", 7);
        desk.due("none of these is one", desk.now().count(1), 0);
        desk.picture(Texts.many("week 1;", 12), 0);
        desk.badPicture(Texts.many("week 1;", 12) + "week 2;", 84);
        desk.badPicture(Texts.many("week 1;", 12) + " ;", 85);
        desk.picture(Texts.many("week 1;", 12) + " \n", 1);
    }

    private static void moreSigns() {
        PlateDay x = desk.fresh(TOWN);
        desk.picture("week 1;", 0);
        desk.picture("week 2;year 2;", 1);
        desk.more(0, "year 1;lacks m;", 3);
        desk.due("behind those", x.sign(0, 1, 0), 7);
        desk.due("behind those", x.sign(0, 2, 0), 1);
        desk.due("the first stays", x.sign(0, 0, 1), 1);
        desk.due("all signs", x.count(4), 5);
        int all = x.all(0);
        desk.badMore(0, "", 0);
        desk.badMore(0, " ", 1);
        desk.badMore(0, "year 1;year 10;", 12);
        desk.badMore(0, Texts.many("year 2;", 10), 63);
        desk.due("stays as it was", x.count(4), 5);
        desk.due("stays as it was", x.all(0), all);
        desk.more(0, Texts.many("year 1;", 9), 12);
        desk.badMore(0, "year 1;", 0);
        desk.badMore(0, "", 0);
        desk.feed("year 1;");
        desk.due("no such picture", x.more(2, 7), -2);
        desk.due("no such picture", x.more(-1, 7), -2);
        desk.due("below 0", x.more(1, -1), -2);
        desk.due("more than there are", x.more(1, 21), -2);
        desk.due("the tape stays", x.count(2), 20);
        desk.due("the second one", x.more(1, 7), 3);
        desk.due("the tape is empty", x.count(2), 0);
    }

    private static void faultStays() {
        PlateDay x = desk.fresh(TOWN);
        desk.badPicture("year 77;", 5);
        desk.due("refused", x.town(1), -2);
        desk.due("a refused town changes no fault", x.fault(), 5);
        desk.due("refused", x.picture(-1), -2);
        desk.due("refused", x.more(0, 0), -2);
        desk.due("a refused picture changes no fault", x.fault(), 5);
        for (int i = 0; i < 8; i++) {
            desk.picture("week 1;", i);
        }
        desk.badMore(0, "year 1;yeah", 7);
        desk.due("no room", x.picture(0), -3);
        desk.due("no room changes no fault", x.fault(), 7);
        x.image();
        x.back(0);
        desk.due("an image changes no fault", x.fault(), 7);
        desk.more(0, "year 1;", 2);
    }

    private static void toldNumbers() {
        PlateDay x = desk.fresh("thing m from 100 give 10 till 200 give 5;thing n from 3599;sun 3 5 east 1 north 1;post p 1 2 3;"
            + "tree e leaf 1 bare 2;clock c slow 1 fast 2;post q 31 30 20;thing o from 7 till 7;");
        int[] counts = {3, 1, 2, 1, 1, 8};
        for (int i = 0; i < counts.length; i++) {
            desk.due("told " + i, x.told(i), counts[i]);
        }
        int[] things = {100, 10, 200, 5, 3599, 0, -1, 0, 7, 0, 7, 0, -1, -1};
        for (int i = 0; i < things.length; i++) {
            desk.due("of things " + i, x.told(100 + i), things[i]);
        }
        int[] posts = {1, 2, 3, 31, 30, 20, -1, -1, -1};
        for (int i = 0; i < posts.length; i++) {
            desk.due("of posts " + i, x.told(200 + i), posts[i]);
        }
        desk.due("none such", x.told(-1), -1);
        desk.due("none such", x.told(6), -1);
        desk.due("none such", x.told(99), -1);
        desk.due("none such", x.told(199), -1);
        desk.due("none such", x.told(Integer.MAX_VALUE), -1);
        desk.due("none such", x.told(Integer.MIN_VALUE), -1);
    }

    private static void signNumbers() {
        PlateDay x = desk.fresh("thing n from 1;thing m from 1;post p 1 1 1;post q 2 2 2;clock b slow 0 fast 0;clock c slow 0 fast 0;"
            + "tree f leaf 1 bare 2;tree e leaf 1 bare 2;");
        desk.picture("week 1;", 0);
        desk.picture("stands m;lacks n;leaf e;bare f;shadow q 3 4 give 5;shadow p 6 7;clock c 719;week 6;year 9;before q p;left p q;", 1);
        int[][] due = {{0, 1, -1, -1, -1}, {1, 0, -1, -1, -1}, {2, 1, -1, -1, -1}, {3, 0, -1, -1, -1}, {4, 1, 3, 4, 5}, {4, 0, 6, 7, 0},
            {5, 1, 719, -1, -1}, {6, 6, -1, -1, -1}, {7, 9, -1, -1, -1}, {8, 1, 0, -1, -1}, {9, 0, 1, -1, -1}};
        for (int k = 0; k < due.length; k++) {
            for (int what = 0; what < 5; what++) {
                desk.due("sign " + k + " " + what, x.sign(1, k, what), due[k][what]);
            }
            desk.due("none such", x.sign(1, k, -1), -1);
            desk.due("none such", x.sign(1, k, 5), -1);
        }
        desk.due("none such", x.sign(1, 11, 0), -1);
        desk.due("none such", x.sign(1, -1, 0), -1);
        desk.due("none such", x.sign(2, 0, 0), -1);
        desk.due("none such", x.sign(-1, 0, 0), -1);
    }
}
