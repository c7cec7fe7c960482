/** Promises 4, 5 and 8: each sentence that names a boundary of a PICTURE's text, of more SIGNS, or of what they tell, on both its sides. */
public final class EdgePictureTest {
    private static final Desk desk = new Desk("EdgePictureTest");
    private static final String TOWN = "thing m from 100 till 200;tree e leaf 1 bare 2;post p 1 1 1;post q 2 2 2;clock c slow 0 fast 0;";
    private static final String[] SIGNS = {"stands m", "lacks m", "leaf e", "bare e", "shadow p 1 1", "shadow p 1 1 give 1", "clock c 1", "week 1",
        "year 1", "before p q", "left p q"};

    public static void main(String[] args) {
        numbersOfPictures();
        firstBytes();
        faultLeavesPictures();
        refusedPicture();
        eightPictures();
        refusedGoesAhead();
        roomAgain();
        oneSignAtLeast();
        twelveSigns();
        signsEnd();
        signNumbers();
        toldNames();
        namesOfOtherTowns();
        unlikePosts();
        signWords();
        everyByte();
        moreMustCome();
        leftOut();
        withoutTown();
        moreSigns();
        moreOneAtLeast();
        moreThanTwelve();
        faultLeavesSigns();
        refusedMore();
        moreOfEight();
        signOfEachKind();
        noSuchSign();
        desk.close();
    }

    private static void numbersOfPictures() {
        desk.says("Promise 4: Likewise a PICTURE: its number. Terms: PICTURES, up to 8, .. numbered from 0 on");
        PlateDay x = desk.fresh(TOWN);
        for (int i = 0; i < 8; i++) {
            desk.due("no such one yet", x.all(i), -1);
            desk.picture(SIGNS[i] + ";year " + i + ";", i);
            desk.due("pictures", x.count(1), i + 1);
            desk.due("signs", x.count(4), 2 * i + 2);
        }
        for (int i = 0; i < 8; i++) {
            desk.due("its own year", x.sign(i, 1, 1), i);
        }
        desk.due("no ninth", x.all(8), -1);
    }

    private static void firstBytes() {
        desk.says("Promise 4: Likewise (the first n bytes of the tape, which is empty then, with a FAULT, too)");
        PlateDay x = desk.fresh(TOWN);
        desk.feed("year 1;week 5;");
        desk.due("just the first sign", x.picture(7), 0);
        desk.due("one sign", x.count(4), 1);
        desk.due("the tape is empty", x.count(2), 0);
        desk.due("nothing is left of it", x.picture(1), -2);
        desk.feed("year 1;week 5;");
        desk.due("a byte less", x.picture(6), -1);
        desk.due("its length", x.fault(), 6);
        desk.due("the tape is empty with a fault, too", x.count(2), 0);
        desk.due("nothing is left of it", x.picture(1), -2);
        desk.feed("clock c 0012345;");
        desk.due("four digits", x.picture(12), -1);
        desk.due("its length", x.fault(), 12);
        desk.feed("clock c 0012345;");
        desk.due("five digits", x.picture(13), -1);
        desk.due("no such number", x.fault(), 8);
        desk.feed("week 6;");
        desk.due("no byte of it", x.picture(0), -1);
        desk.due("the tape is empty with n 0, too", x.count(2), 0);
        desk.due("one picture still", x.count(1), 1);
        desk.feed(" ".repeat(1193) + "week 6;");
        desk.due("all that there's room for", x.picture(1200), 1);
    }

    private static void faultLeavesPictures() {
        desk.says("Promise 4: Likewise .. NONE: a FAULT (all is as it was)");
        PlateDay x = desk.fresh(TOWN);
        desk.picture("week 1;stands m;", 0);
        desk.picture("year 2;", 1);
        desk.due("a weight", x.weight(7, 8), true);
        desk.due("an image", x.image(), 0);
        desk.badPicture("?", 0);
        desk.keep();
        desk.badPicture(";", 0);
        desk.badPicture("year 3;week 2;lacks m;leaf e", 28);
        // The fault's place alone is another one.
        desk.badPicture("?", 0);
        desk.same("a fault");
        desk.picture("year 3;", 2);
        desk.due("its own sign", x.sign(2, 0, 1), 3);
        desk.due("one alone", x.sign(2, 1, 0), -1);
        desk.due("the image", x.back(0), true);
        desk.due("has two pictures", x.count(1), 2);
        desk.due("and its weight", x.count(17), 8);
    }

    private static void refusedPicture() {
        desk.says("Promise 4: Likewise .. -2, doing nothing: n is below 0 or more than there are.");
        PlateDay x = desk.fresh(TOWN);
        desk.picture("week 1;", 0);
        desk.badPicture("week", 4);
        desk.due("nothing is on the tape", x.picture(1), -2);
        desk.feed("year 1;week 2;      ");
        desk.keep();
        for (int n : new int[] {-1, 21, 40, 1200, 1201, Integer.MIN_VALUE, Integer.MAX_VALUE}) {
            desk.due("no such n " + n, x.picture(n), -2);
        }
        desk.same("a refused picture");
        desk.due("20 are there", x.picture(20), 1);
        desk.due("both signs", x.count(4), 3);
        desk.due("none are there", x.picture(1), -2);
        desk.due("below 0", x.picture(-1), -2);
    }

    private static void eightPictures() {
        desk.says("Promise 4: -3, behind -2, doing nothing: 8 are there. Terms: PICTURES, up to 8");
        PlateDay x = desk.fresh(TOWN);
        for (int i = 0; i < 7; i++) {
            desk.picture("week " + i + ";", i);
        }
        desk.badPicture("week", 4);
        desk.picture("year 7;", 7);
        desk.badMore(0, "?", 0);
        desk.feed("year 1;              ");
        desk.keep();
        for (int n : new int[] {7, 0, 5, 20}) {
            desk.due("a ninth, whatever its text", x.picture(n), -3);
        }
        desk.same("a ninth picture");
        desk.due("the tape is as it was", x.more(7, 7), 2);
        desk.due("no ninth", x.count(1), 8);
        desk.due("an empty tape", x.picture(0), -3);
        desk.due("no fault of its own", x.fault(), -1);
    }

    private static void refusedGoesAhead() {
        desk.says("Promise 4: -3, behind -2 (n is looked at ahead of how many there are)");
        PlateDay x = desk.fresh(TOWN);
        for (int i = 0; i < 8; i++) {
            desk.picture("week 1;", i);
        }
        desk.due("both: below 0", x.picture(-1), -2);
        desk.due("both: more than there are", x.picture(1), -2);
        desk.due("just the second", x.picture(0), -3);
        desk.feed("week 1;");
        desk.due("both: more than there are", x.picture(21), -2);
        desk.due("just the second", x.picture(20), -3);
        desk.due("both: below 0", x.picture(Integer.MIN_VALUE), -2);
        desk.due("the tape stays", x.count(2), 20);
    }

    private static void roomAgain() {
        desk.says("Promise 4: -3 .. 8 are there (not when an IMAGE or a TOWN left less)");
        PlateDay x = desk.fresh(TOWN);
        for (int i = 0; i < 8; i++) {
            desk.due("an image of 7", i == 7 ? x.image() : 0, 0);
            desk.picture("week 1;", i);
        }
        desk.due("an image of 8", x.image(), 1);
        desk.feed("year 4;");
        desk.due("eight", x.picture(7), -3);
        desk.due("back to seven", x.back(0), true);
        desk.due("the eighth", x.picture(7), 7);
        desk.due("its sign", x.sign(7, 0, 1), 4);
        desk.due("back to eight", x.back(1), true);
        desk.due("its sign", x.sign(7, 0, 1), 1);
        desk.due("eight", x.picture(0), -3);
        desk.due("a town", x.town(0), 0);
        desk.picture("year 4;", 0);
    }

    private static String signs(int n) {
        StringBuilder text = new StringBuilder();
        for (int i = 0; i < n; i++) {
            text.append("year ").append(i % 10).append(';');
        }
        return text.toString();
    }

    private static void oneSignAtLeast() {
        desk.says("Terms: at least one SIGN. FAULT: .. the text's length, if more must come");
        desk.fresh(TOWN);
        desk.badPicture("", 0);
        desk.badPicture(" ", 1);
        desk.badPicture(" \n  ", 4);
        desk.badPicture(";", 0);
        desk.badPicture(" ;", 1);
        desk.due("none", desk.now().count(1), 0);
        desk.picture("year 1;", 0);
        desk.picture("\n \nyear 1 ;\n", 1);
    }

    private static void twelveSigns() {
        desk.says("Terms: {SIGN \";\"}, .. 12 at most. FAULT likewise (the 13th SIGN's word, too)");
        PlateDay x = desk.fresh(TOWN);
        desk.picture(signs(11), 0);
        desk.picture(signs(12), 1);
        desk.due("eleven", x.sign(0, 10, 1), 0);
        desk.due("no twelfth", x.sign(0, 11, 1), -1);
        desk.due("twelve", x.sign(1, 11, 1), 1);
        desk.due("no 13th", x.sign(1, 12, 1), -1);
        desk.badPicture(signs(13), 84);
        desk.badPicture(signs(12) + " \n year 1;", 87);
        desk.badPicture(signs(12) + "?", 84);
        desk.badPicture(signs(12) + ";", 84);
        desk.badPicture(signs(12) + "77", 84);
        desk.badPicture(signs(12) + "stands", 84);
        desk.badPicture(signs(14), 84);
        desk.picture(signs(12) + " \n ", 2);
        for (String sign : SIGNS) {
            desk.badPicture(signs(12) + sign + ";", 84);
        }
        desk.due("signs in all", x.count(4), 35);
    }

    private static void signsEnd() {
        desk.says("Terms: {SIGN \";\"}. (One \";\" behind each, behind the last one, too.)");
        for (String sign : SIGNS) {
            desk.fresh(TOWN);
            desk.picture(sign + ";", 0);
            desk.picture(sign + ";year 1;", 1);
            desk.picture(sign + " ;", 2);
            desk.badPicture(sign, sign.length());
            desk.badPicture(sign + " \n", sign.length() + 2);
            desk.badPicture(sign + ";;", sign.length() + 1);
            desk.badPicture(sign + ": ", sign.length());
            desk.badPicture(sign + " year 1;", sign.length() + 1);
            desk.badPicture(sign + ";year 1", sign.length() + 7);
        }
    }

    private static void signNumbers() {
        desk.fresh(TOWN);
        Spot spot = new Spot(desk, false);
        desk.says("Terms: \"shadow\" POST X Y: POINTS: x and y 0 to 31. Each number of one to four digits.");
        spot.tries("shadow p ", 0, 31, " 7;");
        spot.tries("shadow p 7 ", 0, 31, ";");
        spot.tries("shadow p 7 ", 0, 31, " give 7;");
        desk.says("Terms: \"shadow\" .. [\"give\" GIVE]: GIVE 0 to 99. Each number of one to four digits.");
        spot.tries("shadow p 7 7 give ", 0, 99, ";");
        desk.says("Terms: \"clock\" CLOCK MINUTE: MINUTES 0 to 719. Each number of one to four digits.");
        spot.tries("clock c ", 0, 719, ";");
        desk.says("Terms: \"week\" WEEKDAY: modulo 7 (0 to 6). Each number of one to four digits.");
        spot.tries("week ", 0, 6, ";");
        desk.says("Terms: \"year\" YEAR: by 360 (0 to 9). Each number of one to four digits.");
        spot.tries("year ", 0, 9, ";");
    }

    private static void toldNames() {
        desk.says("Terms: THING, TREE, POST, CLOCK: a NAME told so.");
        String[] names = {"m", "e", "p", "c"};
        // For each form the kind that its NAME must be of.
        String[] forms = {"stands #;", "lacks #;", "leaf #;", "bare #;", "shadow # 1 1;", "clock # 1;", "before # q;", "left # q;", "before q #;", "left q #;"};
        int[] kinds = {0, 0, 1, 1, 2, 3, 2, 2, 2, 2};
        for (int i = 0; i < forms.length; i++) {
            int place = forms[i].indexOf('#');
            desk.fresh(TOWN);
            for (int kind = 0; kind < 4; kind++) {
                if (kind == kinds[i]) {
                    desk.picture(forms[i].replace("#", names[kind]), 0);
                } else {
                    desk.badPicture(forms[i].replace("#", names[kind]), place);
                }
            }
            for (String other : new String[] {"mm", "ee", "pp", "cc", "x", "thing", "stands", "mmmmmmmm", "mmmmmmmmm", "1", "?"}) {
                desk.badPicture(forms[i].replace("#", other), place);
            }
            desk.due("one picture", desk.now().count(1), 1);
        }
        // Each letter of the NAME counts, from the first to the eighth.
        desk.fresh("thing abcdefgh from 1;thing abcdefg from 2;thing bcdefgh from 3;");
        desk.picture("stands abcdefgh;stands abcdefg;stands bcdefgh;", 0);
        for (int k = 0; k < 3; k++) {
            desk.due("which thing", desk.now().sign(0, k, 1), k);
        }
        for (String other : new String[] {"abcdefgi", "bbcdefgh", "abcdefghh", "abcdef", "abcdegh"}) {
            desk.badPicture("stands " + other + ";", 7);
        }
        // The first and the last of each kind.
        desk.fresh("thing ma from 1;thing mb from 1;tree ea leaf 1 bare 2;tree eb leaf 1 bare 2;clock ca slow 1 fast 1;clock cb slow 1 fast 1;"
            + "post pa 1 1 1;post pb 1 1 1;");
        desk.picture("stands ma;stands mb;leaf ea;leaf eb;clock ca 1;clock cb 1;shadow pa 1 1;shadow pb 1 1;before pa pb;before pb pa;", 0);
        int[] due = {0, 1, 0, 1, 0, 1, 0, 1, 0, 1};
        for (int k = 0; k < due.length; k++) {
            desk.due("which one", desk.now().sign(0, k, 1), due[k]);
        }
        desk.badPicture("stands mc;", 7);
    }

    private static void namesOfOtherTowns() {
        desk.says("Terms: a NAME told so (by the TOWN, not by one that is gone or had a FAULT)");
        desk.fresh("thing old from 1;thing both from 1;");
        desk.town("thing both from 2;thing new from 1;", 2);
        desk.badTown("thing wrong from 1;tree new leaf 1 bare 2;?", 42);
        desk.badPicture("stands old;", 7);
        desk.badPicture("stands wrong;", 7);
        desk.badPicture("leaf new;", 5);
        desk.picture("stands new;stands both;", 0);
        desk.due("which thing", desk.now().sign(0, 0, 1), 1);
        desk.due("which thing", desk.now().sign(0, 1, 1), 0);
        desk.town("", 0);
        desk.badPicture("stands both;", 7);
    }

    private static void unlikePosts() {
        desk.says("Terms: \"before\" POST POST | \"left\" POST POST (two posts unlike: FAULT at the second)");
        PlateDay x = desk.fresh("post p 1 1 1;post q 1 1 1;post r 2 2 2;");
        for (String word : new String[] {"before ", "left "}) {
            for (String post : new String[] {"p", "q", "r"}) {
                desk.badPicture(word + post + " " + post + ";", word.length() + 2);
                desk.badPicture(word + post + "\n\n " + post + ";", word.length() + 4);
                desk.badPicture(word + post + " " + post, word.length() + 2);
            }
        }
        // Posts at one POINT are two posts all the same.
        desk.picture("before p q;left p q;before q p;left q p;before p r;left r p;", 0);
        desk.due("six signs", x.count(4), 6);
    }

    private static void signWords() {
        desk.says("Terms: SIGN: \"stands\" THING | \"lacks\" THING | .. FAULT likewise (at a word that is none of these)");
        desk.fresh(TOWN);
        for (String word : new String[] {"thing", "tree", "post", "sun", "from", "give", "till", "slow", "fast", "east", "m", "p", "stand", "standss",
            "lack", "lackss", "leave", "bar", "barer", "shadows", "shado", "clocks", "cloc", "weeks", "wee", "years", "yea", "befor", "befores", "lef",
            "lefts", "a", "z", "1", "?", "\u00ff", "Week"}) {
            desk.badPicture(word + " m 1 1 1;", 0);
            desk.badPicture("year 1; " + word + " m 1 1 1;", 8);
        }
        desk.badPicture("leafe;", 0);
        desk.badPicture("week5x;", 5);
        desk.picture("week5;year7;clock c5;shadow p7 8give9;", 0);
    }

    private static void everyByte() {
        desk.says("Terms: words of letters a to z, digits, signs; between them blanks (bytes 32 and 10). FAULT likewise");
        desk.fresh(TOWN);
        for (int b = 0; b < 256; b++) {
            boolean isBlank = b == 32 || b == 10;
            String number = "clock c 1" + (char) b + ";";
            if (isBlank || b >= '0' && b <= '9') {
                desk.anew();
                desk.picture(number, 0);
                desk.due("its minute", desk.now().sign(0, 0, 2), isBlank ? 1 : 10 + b - '0');
            } else {
                desk.badPicture(number, b == ';' ? 10 : 9);
            }
            if (isBlank) {
                desk.anew();
                desk.picture((char) b + "year 1;", 0);
            } else {
                desk.badPicture((char) b + "year 1;", 0);
            }
            if (b == 'm') {
                desk.anew();
                desk.picture("stands m;", 0);
            } else {
                desk.badPicture("stands " + (char) b + ";", isBlank ? 8 : 7);
            }
        }
    }

    private static void moreMustCome() {
        desk.says("Terms: FAULT: .. the text's length, if more must come (in a PICTURE's text, and in that of more SIGNS)");
        for (String sign : SIGNS) {
            desk.fresh(TOWN);
            desk.picture("year 1;", 0);
            String whole = sign + " ;";
            for (int blank = whole.indexOf(' '); blank > 0; blank = whole.indexOf(' ', blank + 1)) {
                String start = whole.substring(0, blank);
                desk.badPicture(start, blank);
                desk.badPicture(start + " \n", blank + 2);
                desk.badPicture("year 1;" + start, blank + 7);
                desk.badMore(0, start, blank);
                desk.badMore(0, start + "\n", blank + 1);
                // A ";" is no more of it.
                if (!start.equals(sign) && !start.equals("shadow p 1 1")) {
                    desk.badPicture(start + " ;", blank + 1);
                    desk.badMore(0, start + ";", blank);
                }
            }
            desk.due("one sign", desk.now().count(4), 1);
            desk.more(0, whole, 2);
        }
    }

    /** A SIGN with one of its tokens left out, and with one told twice; where the FAULTS are, is told for each token. */
    private static void oneLessOneMore(String sign, int[] without, int[] twice) {
        String[] tokens = sign.split(" ");
        for (int i = 0; i < tokens.length; i++) {
            StringBuilder less = new StringBuilder();
            StringBuilder more = new StringBuilder();
            for (int j = 0; j < tokens.length; j++) {
                less.append(j == i ? "" : tokens[j] + " ");
                more.append(j == i ? tokens[j] + " " : "").append(tokens[j]).append(' ');
            }
            desk.badPicture(less.toString(), without[i]);
            desk.badPicture(more.toString(), twice[i]);
        }
    }

    private static void leftOut() {
        desk.says("Terms: FAULT likewise (at the first token with which no such text goes on: one ahead of it is missing, or it's there once more)");
        desk.fresh(TOWN);
        oneLessOneMore("stands m ;", new int[] {0, 7, 9}, new int[] {7, 9, 11});
        oneLessOneMore("lacks m ;", new int[] {0, 6, 8}, new int[] {6, 8, 10});
        oneLessOneMore("leaf e ;", new int[] {0, 5, 7}, new int[] {5, 7, 9});
        oneLessOneMore("bare e ;", new int[] {0, 5, 7}, new int[] {5, 7, 9});
        oneLessOneMore("shadow p 1 2 give 3 ;", new int[] {0, 7, 11, 11, 13, 18, 20}, new int[] {7, 9, 13, 13, 18, 20, 22});
        oneLessOneMore("clock c 5 ;", new int[] {0, 6, 8, 10}, new int[] {6, 8, 10, 12});
        oneLessOneMore("week 5 ;", new int[] {0, 5, 7}, new int[] {5, 7, 9});
        oneLessOneMore("year 5 ;", new int[] {0, 5, 7}, new int[] {5, 7, 9});
        oneLessOneMore("before p q ;", new int[] {0, 9, 9, 11}, new int[] {7, 9, 11, 13});
        oneLessOneMore("left p q ;", new int[] {0, 7, 7, 9}, new int[] {5, 7, 9, 11});
        desk.badPicture("year 1 ; week ;", 14);
        desk.badPicture("clock c 1 give 2 ;", 10);
        desk.badPicture("stands m give 2 ;", 9);
    }

    private static void withoutTown() {
        desk.says("Promise 1: No TOWN (nothing told): PICTURES that name nothing are texts, those that name something have a FAULT");
        desk.fresh();
        for (String sign : SIGNS) {
            boolean names = !sign.startsWith("week") && !sign.startsWith("year");
            if (names) {
                desk.badPicture(sign + ";", sign.indexOf(' ') + 1);
            }
        }
        desk.picture("week 6;year 9;", 0);
        desk.due("moments", desk.now().all(0), 720 * 52);
    }

    private static void moreSigns() {
        desk.says("Promise 5: Likewise SIGNS (at least one) that come behind those of a PICTURE: how many it has then.");
        PlateDay x = desk.fresh(TOWN);
        desk.picture("year 1;", 0);
        desk.picture("year 2;week 2;", 1);
        desk.feed("stands m;lacks m;");
        desk.due("just the first sign", x.more(0, 9), 2);
        desk.due("the tape is empty", x.count(2), 0);
        desk.due("nothing is left of it", x.more(0, 1), -2);
        desk.more(0, "week 3;clock c 9;", 4);
        int[][] due = {{7, 1}, {0, 0}, {6, 3}, {5, 0}};
        for (int k = 0; k < 4; k++) {
            desk.due("what", x.sign(0, k, 0), due[k][0]);
            desk.due("which", x.sign(0, k, 1), due[k][1]);
        }
        desk.due("no fifth", x.sign(0, 4, 0), -1);
        desk.due("the other one is as it was", x.sign(1, 2, 0), -1);
        desk.due("signs in all", x.count(4), 6);
        desk.due("pictures", x.count(1), 2);
        desk.more(1, "lacks m;", 3);
        desk.due("the first one is as it was", x.sign(0, 4, 0), -1);
        desk.due("its sign", x.sign(1, 2, 0), 1);
        desk.due("no moment lets a year 1 in 100 to 200", x.all(0), 0);
        desk.due("of the second one", x.all(1), 720 * 51);
    }

    private static void moreOneAtLeast() {
        desk.says("Promise 5: SIGNS (at least one)");
        desk.fresh(TOWN);
        desk.picture("year 1;", 0);
        desk.badMore(0, "", 0);
        desk.badMore(0, " ", 1);
        desk.badMore(0, "\n \n", 3);
        desk.badMore(0, ";", 0);
        desk.more(0, " week 1 ; ", 2);
        desk.feed("week 1;");
        desk.due("no byte of it", desk.now().more(0, 0), -1);
        desk.due("its place", desk.now().fault(), 0);
        desk.due("the tape is empty with n 0, too", desk.now().count(2), 0);
    }

    private static void moreThanTwelve() {
        desk.says("Promise 5: NONE: a FAULT (it stays as it was; also by the 13th in all).");
        for (int had = 1; had <= 12; had++) {
            desk.fresh(TOWN);
            desk.picture(signs(had), 0);
            desk.badMore(0, signs(13 - had), 7 * (12 - had));
            desk.badMore(0, " " + signs(13 - had), 7 * (12 - had) + 1);
            desk.badMore(0, signs(12 - had) + "\n\n?", 7 * (12 - had) + 2);
            desk.badMore(0, signs(12 - had) + "stands x", 7 * (12 - had));
            desk.badMore(0, signs(12), 7 * (12 - had));
            desk.due("as it was", desk.now().count(4), had);
            if (had < 12) {
                desk.more(0, signs(12 - had), 12);
            }
            desk.badMore(0, "year 1;", 0);
            desk.badMore(0, "", 0);
            desk.badMore(0, "  ", 2);
            desk.due("twelve", desk.now().count(4), 12);
            desk.due("the last", desk.now().sign(0, 11, 0), 7);
            desk.due("no 13th", desk.now().sign(0, 12, 0), -1);
        }
    }

    private static void faultLeavesSigns() {
        desk.says("Promise 5: NONE: a FAULT (it stays as it was)");
        PlateDay x = desk.fresh(TOWN);
        desk.picture("year 0;", 0);
        desk.picture("year 1;stands m;", 1);
        desk.badMore(0, "?", 0);
        desk.keep();
        desk.badMore(0, "week 1;stands m;week 2;week", 27);
        desk.due("the tape is empty with a fault, too", x.count(2), 0);
        desk.badMore(1, "week 7", 5);
        desk.badMore(0, "?", 0);
        desk.same("a fault");
        desk.due("quarrel", x.quarrel(0), 0);
        desk.due("runs", x.runs(0, -1, 0), 360);
        desk.more(0, "week 3;", 2);
        desk.due("behind the first", x.sign(0, 1, 1), 3);
        desk.due("no third", x.sign(0, 2, 0), -1);
    }

    private static void refusedMore() {
        desk.says("Promise 5: -2: no such PICTURE, too. (-2, doing nothing: n is below 0 or more than there are.)");
        PlateDay x = desk.fresh(TOWN);
        desk.feed("week 1;");
        desk.due("no picture at all", x.more(0, 7), -2);
        desk.due("the tape stays", x.picture(7), 0);
        desk.picture("year 1;", 1);
        desk.badPicture("year", 4);
        desk.feed("week 1;year 2;      ");
        desk.keep();
        for (int picture : new int[] {-1, 2, 7, 8, Integer.MIN_VALUE, Integer.MAX_VALUE}) {
            desk.due("no such picture " + picture, x.more(picture, 7), -2);
            desk.due("no such picture " + picture, x.more(picture, 0), -2);
            desk.due("neither", x.more(picture, 21), -2);
        }
        for (int n : new int[] {-1, 21, 40, 1201, Integer.MIN_VALUE, Integer.MAX_VALUE}) {
            desk.due("no such n " + n, x.more(0, n), -2);
            desk.due("no such n " + n, x.more(1, n), -2);
        }
        desk.same("refused signs");
        desk.due("20 are there", x.more(1, 20), 3);
        desk.due("none are there", x.more(1, 1), -2);
    }

    private static void moreOfEight() {
        desk.says("Promise 5: (More SIGNS of a PICTURE are taken when 8 are there, too.)");
        PlateDay x = desk.fresh(TOWN);
        for (int i = 0; i < 8; i++) {
            desk.picture("year " + i + ";", i);
        }
        desk.more(7, "week 1;", 2);
        desk.more(0, "week 1;", 2);
        desk.badMore(7, "week", 4);
        desk.due("signs", x.count(4), 10);
        desk.due("pictures", x.count(1), 8);
        for (int i = 0; i < 8; i++) {
            desk.due("its year", x.sign(i, 0, 1), i);
        }
    }

    private static void signOfEachKind() {
        desk.says("Promise 8: Of a SIGN: 0 what (0 stands .. 9 left), 1 which .., or the number; 2 the second post, x, the MINUTE; 3 y, 4 GIVE. "
            + "NONE: .. (not told for such a one).");
        PlateDay x = desk.fresh(TOWN + "thing n from 5;tree f leaf 1 bare 2;clock d slow 0 fast 0;");
        String[] signs = {"stands n;", "lacks m;", "leaf f;", "bare e;", "shadow q 31 30 give 99;", "clock d 719;", "week 6;", "year 9;", "before q p;",
            "left p q;", "shadow p 0 1;", "clock c 0;"};
        int[][] due = {{0, 1, -1, -1, -1}, {1, 0, -1, -1, -1}, {2, 1, -1, -1, -1}, {3, 0, -1, -1, -1}, {4, 1, 31, 30, 99}, {5, 1, 719, -1, -1},
            {6, 6, -1, -1, -1}, {7, 9, -1, -1, -1}, {8, 1, 0, -1, -1}, {9, 0, 1, -1, -1}, {4, 0, 0, 1, 0}, {5, 0, 0, -1, -1}};
        desk.picture(String.join("", signs), 0);
        desk.picture("week 0;year 0;", 1);
        for (int k = 0; k < due.length; k++) {
            for (int what = 0; what < 5; what++) {
                desk.due("sign " + signs[k] + " " + what, x.sign(0, k, what), due[k][what]);
            }
        }
        desk.due("week 0", x.sign(1, 0, 1), 0);
        desk.due("year 0", x.sign(1, 1, 1), 0);
    }

    private static void noSuchSign() {
        desk.says("Promise 8: NONE: none such");
        PlateDay x = desk.fresh(TOWN);
        desk.due("no picture at all", x.sign(0, 0, 0), -1);
        desk.picture("year 5;", 0);
        desk.picture("shadow p 1 2 give 3;year 5;", 1);
        desk.due("the first", x.sign(0, 0, 0), 7);
        desk.due("the last", x.sign(1, 1, 0), 7);
        for (int k : new int[] {-1, 2, 11, 12, Integer.MIN_VALUE, Integer.MAX_VALUE}) {
            desk.due("no such sign " + k, x.sign(1, k, 0), -1);
        }
        desk.due("no such sign of the first", x.sign(0, 1, 0), -1);
        for (int what : new int[] {-1, 5, 6, Integer.MIN_VALUE, Integer.MAX_VALUE}) {
            desk.due("no such what " + what, x.sign(1, 0, what), -1);
            desk.due("no such what " + what, x.sign(1, 1, what), -1);
        }
        for (int picture : new int[] {-1, 2, 7, 8, Integer.MIN_VALUE, Integer.MAX_VALUE}) {
            desk.due("no such picture " + picture, x.sign(picture, 0, 0), -1);
        }
    }
}
