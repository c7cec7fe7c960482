import java.util.List;

/** Promises 1 to 3, 6 and 7: each sentence that names a boundary of the tape, of a TOWN's text, or of what was told, on both its sides. */
public final class EdgeTownTest {
    private static final Desk desk = new Desk("EdgeTownTest");
    private static final List<String> WORDS = List.of("thing", "from", "give", "till", "tree", "leaf", "bare", "post", "clock", "slow", "fast",
        "sun", "east", "west", "north", "south", "stands", "lacks", "shadow", "week", "year", "before", "left");
    /** The STATEMENTS with a NAME, which stands where the # is. */
    private static final String[] NAMED = {"thing # from 1;", "tree # leaf 1 bare 2;", "post # 1 1 1;", "clock # slow 1 fast 1;"};

    public static void main(String[] args) {
        newObject();
        twoObjects();
        bytesOfNumbers();
        fullTape();
        firstBytes();
        faultLeavesTown();
        refusedTown();
        emptyText();
        statementsEnd();
        thingForms();
        townNumbers();
        tillAndFrom();
        twoPlaces();
        sunMinutes();
        newNames();
        sameNames();
        namesOfOtherTexts();
        tokensAsLong();
        everyByte();
        blanksAndPlaces();
        moreMustCome();
        leftOut();
        toldTwice();
        mostOfAKind();
        oneTooMany();
        sixtyStatements();
        takenTown();
        sameTownAgain();
        latestFault();
        toldCounts();
        toldThings();
        toldPosts();
        desk.close();
    }

    private static void newObject() {
        desk.says("Promise 1: No TOWN (nothing told), no PICTURES; weights are 1.");
        PlateDay x = desk.fresh();
        for (int what : new int[] {0, 1, 2, 3, 4, 5}) {
            desk.due("nothing told " + what, x.told(what), 0);
        }
        for (int what : new int[] {-1, 6, 99, 100, 101, 102, 103, 199, 200, 201, 202}) {
            desk.due("none such " + what, x.told(what), -1);
        }
        for (int what : new int[] {0, 1, 2, 3, 4}) {
            desk.due("count " + what, x.count(what), 0);
        }
        for (int month = 0; month < 12; month++) {
            desk.due("weight " + month, x.count(10 + month), 1);
        }
        desk.due("no fault", x.fault(), -1);
        desk.due("no picture", x.all(0), -1);
        desk.due("no sign", x.sign(0, 0, 0), -1);
        desk.due("no picture", x.judge(0, 0, 0), -2);
        desk.due("no cloud", x.cloud(1, 0), -1);
        desk.due("no image", x.back(0), false);
        desk.due("no post", x.shadow(0, 0, 0, 0), -1000000);
        desk.due("nothing on the tape", x.town(1), -2);
        desk.due("the first image", x.image(), 0);
        desk.due("NONE", PlateDay.NONE, -1);
    }

    private static void twoObjects() {
        desk.says("Promise 1: No TOWN (nothing told), no PICTURES; weights are 1. (A new one, whatever was told to others.)");
        PlateDay x = desk.fresh("thing m from 7 give 3;post p 1 2 3;");
        desk.picture("stands m;", 0);
        x.weight(4, 9);
        x.image();
        desk.feed("year 1;");
        desk.keep();
        PlateDay other = new PlateDay();
        desk.due("nothing told", other.told(5), 0);
        desk.due("no pictures", other.count(1), 0);
        desk.due("an empty tape", other.count(2), 0);
        desk.due("weights are 1", other.count(14), 1);
        desk.due("no images", other.count(3), 0);
        desk.due("an empty town", other.town(0), 0);
        desk.due("a weight", other.weight(4, 50), true);
        desk.same("what is told to another object");
        desk.due("its tape", x.picture(7), 1);
        desk.due("its image", x.back(0), true);
        desk.due("its own weight", x.count(14), 9);
    }

    private static void bytesOfNumbers() {
        desk.says("Promise 2: Twenty bytes come behind those on the tape, of each number the highest first");
        for (int ahead : new int[] {0, 20, 1180}) {
            for (int place = 0; place < 20; place++) {
                PlateDay x = desk.fresh();
                for (int i = 0; i < ahead; i += 20) {
                    desk.due("blanks", x.feed(0x20202020, 0x0a202020, 0x2020200a, 0x0a0a0a0a, 0x20202020), i + 20);
                }
                int[] v = {0x20202020, 0x20202020, 0x20202020, 0x20202020, 0x20202020};
                v[place / 4] ^= (0x20 ^ '?') << (24 - 8 * (place % 4));
                desk.due("how many there are", x.feed(v[0], v[1], v[2], v[3], v[4]), ahead + 20);
                desk.due("one strange byte", x.town(ahead + 20), -1);
                desk.due("is at its place", x.fault(), ahead + place);
            }
        }
    }

    private static void fullTape() {
        desk.says("Promise 2: NONE, doing nothing: there would be more than 1,200.");
        PlateDay x = desk.fresh("thing m from 7 give 3;");
        for (int i = 20; i <= 1180; i += 20) {
            desk.due("blanks", x.feed(0x20202020, 0x20202020, 0x20202020, 0x20202020, 0x20202020), i);
        }
        desk.due("1,200 are no more", x.feed(0x74686967, 0x20202020, 0x20202020, 0x20202020, 0x2020203f), 1200);
        desk.keep();
        desk.due("1,220 are", x.feed(0x20202020, 0x20202020, 0x20202020, 0x20202020, 0x20202020), -1);
        desk.due("again", x.feed(0x20202020, 0x20202020, 0x20202020, 0x20202020, 0x20202020), -1);
        desk.same("a refused feed");
        desk.due("1,201 are too many", x.town(1201), -2);
        desk.due("1,200 are there", x.town(1200), -1);
        desk.due("as they were", x.fault(), 1180);
        desk.due("there is room again", x.feed(0x20202020, 0x20202020, 0x20202020, 0x20202020, 0x2020203f), 20);
        desk.due("these alone", x.town(20), -1);
        desk.due("the last one's place", x.fault(), 19);
        desk.fresh();
        desk.feed("thing a from 1;thing b from 2;" + " ".repeat(1155) + "thing c from 3;");
        desk.due("a refused one", desk.now().feed(0x3f3f3f3f, 0, 0, 0, 0x3f3f3f3f), -1);
        desk.due("neither the first bytes nor the last ones are others", desk.now().town(1200), 3);
        String blanks = " ".repeat(1185);
        desk.town(blanks + "thing a from 1;", 1);
        desk.badTown(blanks + "thing a from 1 ", 1200);
    }

    private static void firstBytes() {
        desk.says("Promise 3: The first n bytes of the tape (which is empty then, with a FAULT, too) are the TOWN: how many STATEMENTS.");
        PlateDay x = desk.fresh();
        String text = "thing a from 12;tree b leaf 1 bare 2;";
        desk.feed(text);
        desk.due("just the first statement", x.town(16), 1);
        desk.due("the tape is empty", x.count(2), 0);
        desk.due("nothing is left of it", x.town(1), -2);
        desk.feed(text);
        desk.due("a byte less", x.town(15), -1);
        desk.due("its length", x.fault(), 15);
        desk.due("the tape is empty with a fault, too", x.count(2), 0);
        desk.due("nothing is left of it", x.town(1), -2);
        desk.feed(text);
        desk.due("a byte more", x.town(17), -1);
        desk.due("is a word of one letter", x.fault(), 16);
        desk.feed("thing b from 12345;");
        desk.due("of a number just four digits", x.town(17), -1);
        desk.due("its length", x.fault(), 17);
        desk.feed("thing b from 12345;");
        desk.due("five digits", x.town(18), -1);
        desk.due("no such number", x.fault(), 13);
        desk.feed("thing b from 567");
        desk.feed(";");
        desk.due("bytes of two feeds", x.town(21), -1);
        desk.due("a filler between", x.fault(), 16);
        desk.feed("tree b leaf 1bare 2 ");
        desk.feed("   ;");
        desk.due("over twenty bytes", x.town(24), 1);
        desk.feed("   ");
        desk.due("no statement", x.town(0), 0);
        desk.due("the tape is empty with n 0, too", x.count(2), 0);
    }

    private static void faultLeavesTown() {
        desk.says("Promise 3: NONE: a FAULT (the TOWN is as it was)");
        PlateDay x = desk.fresh("thing m from 7 give 3 till 9 give 2;post p 1 2 3;sun 0 0 east 1 north 1;tree e leaf 1 bare 2;");
        desk.picture("stands m;bare e;", 0);
        desk.due("an image", x.image(), 0);
        desk.picture("lacks m;", 1);
        desk.due("a weight", x.weight(3, 77), true);
        String[] texts = {"thing m from 5;thing n from 8;post p 9 9 9;sun 0 0 east 5 north 5;?",
            "thing a from 1 give 9 till 20 give 9;tree e leaf 100 bare 200", "post p 8 8 8;post p", "sun 0 0 west 9 south 9;sun 12", "?"};
        int[] places = {66, 61, 18, 27, 0};
        // The fault's place is its own answer; all else is as it was.
        desk.badTown("thing", 5);
        for (int i = 0; i < texts.length; i++) {
            desk.feed(texts[i]);
            desk.due("a fault", x.town(texts[i].length()), -1);
            desk.due("its place", x.fault(), places[i]);
        }
        desk.badTown("thing", 5);
        desk.due("statements", x.told(5), 4);
        desk.due("things", x.told(0), 1);
        desk.due("from", x.told(100), 7);
        desk.due("give", x.told(101), 3);
        desk.due("till", x.told(102), 9);
        desk.due("give", x.told(103), 2);
        desk.due("posts", x.told(2), 1);
        desk.due("x", x.told(200), 1);
        desk.due("suns", x.told(4), 1);
        desk.due("a shadow", x.shadow(0, 0, 0, 0), 13);
        desk.due("towns taken", x.count(0), 1);
        desk.due("pictures", x.count(1), 2);
        desk.due("images", x.count(3), 1);
        desk.due("weights", x.count(13), 77);
        desk.due("a sign of a thing", x.lets(0, 0, 3, 0), 0);
        desk.due("a sign of a thing", x.lets(0, 0, 4, 0), 1);
        desk.due("a sign of a tree", x.lets(0, 1, 1, 0), 0);
        desk.due("a sign of a tree", x.lets(0, 1, 100, 0), 1);
        desk.badPicture("stands n;", 7);
        desk.picture("stands m;", 2);
        desk.due("back to the image", x.back(0), true);
        desk.due("one picture", x.count(1), 1);
        desk.due("weight 1", x.count(13), 1);
    }

    private static void refusedTown() {
        desk.says("Promise 3: -2, doing nothing: n is below 0 or more than there are.");
        PlateDay x = desk.fresh("thing m from 7 give 3;post p 1 2 3;");
        desk.picture("stands m;", 0);
        desk.due("a weight", x.weight(11, 9), true);
        desk.badTown("thing", 5);
        desk.due("0 of none is a text", x.picture(0), -1);
        desk.feed("thing a from 5;thing b from 6;          ");
        desk.keep();
        for (int n : new int[] {-1, 41, 60, 1200, 1201, Integer.MIN_VALUE, Integer.MAX_VALUE}) {
            desk.due("no such n " + n, x.town(n), -2);
        }
        desk.same("a refused town");
        desk.due("40 are there", x.town(40), 2);
        desk.due("none are there", x.town(1), -2);
        desk.due("none are enough", x.town(0), 0);
        desk.due("below 0", x.town(-1), -2);
    }

    private static void emptyText() {
        desk.says("Terms: A TOWN is a text: {STATEMENT \";\"}. (None is one, too.)");
        PlateDay x = desk.fresh("thing m from 7;");
        desk.due("no byte", x.town(0), 0);
        desk.due("it's taken", x.count(0), 2);
        desk.due("nothing told", x.told(0), 0);
        desk.due("no fault", x.fault(), -1);
        desk.town(" ", 0);
        desk.town("\n \n", 0);
        desk.badTown(";", 0);
        desk.badTown("  ;", 2);
    }

    private static void statementsEnd() {
        desk.says("Terms: {STATEMENT \";\"}. (One \";\" behind each, behind the last one, too.)");
        desk.fresh();
        String[] statements = {"thing a from 1", "thing b from 1 give 2", "thing c from 1 till 2", "thing d from 1 till 2 give 3",
            "tree e leaf 1 bare 2", "post f 1 1 1", "clock g slow 1 fast 1", "sun 0 1 east 1 north 1"};
        for (String one : statements) {
            desk.town(one + ";", 1);
            desk.town(one + ";sun 5 5 east 5 north 5;", 2);
            desk.town(one + " ;", 1);
            desk.badTown(one, one.length());
            desk.badTown(one + " \n", one.length() + 2);
            desk.badTown(one + ";;", one.length() + 1);
            desk.badTown(one + ": ", one.length());
            desk.badTown(one + " sun 5 5 east 5 north 5;", one.length() + 1);
        }
    }

    private static void thingForms() {
        desk.says("Terms: \"thing\" NAME \"from\" DAY [\"give\" GIVE] [\"till\" DAY [\"give\" GIVE]]");
        PlateDay x = desk.fresh();
        desk.town("thing a from 10;thing b from 20 give 2;thing c from 30 till 33;thing d from 40 give 4 till 44;thing e from 50 till 55 give 5;"
            + "thing f from 60 give 6 till 66 give 7;", 6);
        int[] due = {10, 0, -1, 0, 20, 2, -1, 0, 30, 0, 33, 0, 40, 4, 44, 0, 50, 0, 55, 5, 60, 6, 66, 7};
        for (int i = 0; i < due.length; i++) {
            desk.due("told " + (100 + i), x.told(100 + i), due[i]);
        }
        desk.badTown("thing a from 1 give 2 give 3;", 22);
        desk.badTown("thing a from 1 till 2 till 3;", 22);
        desk.badTown("thing a from 1 till 2 give 3 give 4;", 29);
        desk.badTown("thing a from 1 till 2 give 3 till 4;", 29);
        desk.badTown("thing a give 1 from 2;", 8);
        desk.badTown("thing a till 1 from 2;", 8);
        desk.badTown("thing a from give 2;", 13);
        desk.badTown("thing a from 1 till give 2;", 20);
        desk.due("as it was", x.told(0), 6);
    }

    private static void townNumbers() {
        Spot spot = new Spot(desk, true);
        desk.fresh();
        desk.says("Terms: DAYS 0 to 3,599 (of \"from\"). Each number of one to four digits.");
        spot.tries("thing a from ", 0, 3599, ";");
        spot.tries("thing a from ", 0, 3599, " give 99;");
        desk.says("Terms: DAYS 0 to 3,599 (of \"till\"). \"till\" not below \"from\". Each number of one to four digits.");
        spot.tries("thing a from 0 till ", 0, 3599, ";");
        spot.tries("thing a from 5 till ", 5, 3599, " give 9;");
        spot.tries("thing a from 1000 give 99 till ", 1000, 3599, ";");
        spot.tries("thing a from 3599 give 99 till ", 3599, 3599, ";");
        desk.says("Terms: GIVE 0 to 99 (behind \"from\"). Each number of one to four digits.");
        spot.tries("thing a from 5 give ", 0, 99, ";");
        spot.tries("thing a from 5 give ", 0, 99, " till 9;");
        desk.says("Terms: GIVE 0 to 99 (behind \"till\"). Each number of one to four digits.");
        spot.tries("thing a from 5 till 5 give ", 0, 99, ";");
        spot.tries("thing a from 5 give 4 till 9 give ", 0, 99, ";");
        desk.says("Terms: PLACE 0 to 359. Each number of one to four digits.");
        spot.tries("tree a leaf ", 0, 359, " bare 77;");
        spot.tries("tree a leaf 77 bare ", 0, 359, ";");
        desk.says("Terms: POINTS: x and y 0 to 31. Each number of one to four digits.");
        spot.tries("post a ", 0, 31, " 7 7;");
        spot.tries("post a 7 ", 0, 31, " 7;");
        desk.says("Terms: HIGH 1 to 20. Each number of one to four digits.");
        spot.tries("post a 7 7 ", 1, 20, ";");
        desk.says("Terms: WRONG 0 to 99. Each number of one to four digits.");
        spot.tries("clock a slow ", 0, 99, " fast 7;");
        spot.tries("clock a slow 7 fast ", 0, 99, ";");
        desk.says("Terms: MONTH (0 to 11). Each number of one to four digits.");
        spot.tries("sun ", 0, 11, " 7 east 7 north 7;");
        desk.says("Terms: MINUTES 0 to 719. Each number of one to four digits.");
        spot.tries("sun 0 ", 0, 719, " east 7 north 7;");
        spot.tries("sun 11 ", 0, 719, " west 7 south 7;");
        desk.says("Terms: LONG 0 to 99. Each number of one to four digits.");
        spot.tries("sun 0 7 east ", 0, 99, " north 7;");
        spot.tries("sun 0 7 west ", 0, 99, " north 7;");
        spot.tries("sun 0 7 east 7 north ", 0, 99, ";");
        spot.tries("sun 0 7 east 7 south ", 0, 99, ";");
    }

    private static void tillAndFrom() {
        desk.says("Terms: \"till\" not below \"from\".");
        desk.fresh();
        for (int from : new int[] {1, 100, 3598, 3599}) {
            String ahead = "thing a from " + from + " till ";
            desk.town(ahead + from + ";", 1);
            desk.due("from", desk.now().told(100), from);
            desk.due("till", desk.now().told(102), from);
            desk.badTown(ahead + (from - 1) + ";", ahead.length());
            desk.due("as it was", desk.now().told(102), from);
            // Whatever the GIVEs: they move nothing of it.
            String given = "thing a from " + from + " give 99 till ";
            desk.town(given + from + " give 99;", 1);
            desk.badTown(given + (from - 1) + " give 99;", given.length());
        }
        desk.town("thing a from 3599;thing b from 0 till 0;", 2);
        desk.badTown("thing a from 7;thing b from 9 till 8;", 35);
    }

    private static void twoPlaces() {
        desk.says("Terms: PLACE 0 to 359, two unlike (FAULT at the second)");
        desk.fresh();
        for (int place : new int[] {0, 1, 7, 100, 358, 359}) {
            String ahead = "tree a leaf " + place + " bare ";
            desk.badTown(ahead + place + ";", ahead.length());
            desk.badTown(ahead + "0" + place + ";", ahead.length());
            desk.badTown(ahead + place, ahead.length());
            if (place > 0) {
                desk.town(ahead + (place - 1) + ";", 1);
            }
            if (place < 359) {
                desk.town(ahead + (place + 1) + ";", 1);
            }
        }
        desk.town("tree a leaf 5 bare 6;tree b leaf 6 bare 5;tree c leaf 5 bare 6;", 3);
    }

    private static void sunMinutes() {
        desk.says("Terms: a \"sun\"'s MINUTE is above that of the one of that MONTH told last");
        desk.fresh();
        String row = " east 1 north 1;";
        for (int minute : new int[] {0, 1, 300, 718}) {
            String ahead = "sun 3 " + minute + row + "sun 3 ";
            desk.town(ahead + (minute + 1) + row, 2);
            desk.badTown(ahead + minute + row, ahead.length());
            if (minute > 0) {
                desk.badTown(ahead + (minute - 1) + row, ahead.length());
            }
            desk.town(ahead + "719" + row, 2);
        }
        desk.badTown("sun 3 719" + row + "sun 3 719" + row, 31);
        desk.badTown("sun 3 719" + row + "sun 3 720" + row, 31);
        // Just those of that MONTH, the one told last of them, wherever it stands.
        desk.town("sun 3 500" + row + "sun 4 0" + row + "sun 2 0" + row + "sun 3 501" + row + "sun 4 1" + row, 5);
        String three = "sun 3 5" + row + "sun 4 100" + row + "sun 3 9" + row + "sun 5 1" + row + "sun 3 ";
        desk.badTown(three + "9" + row, three.length());
        desk.badTown(three + "6" + row, three.length());
        desk.town(three + "10" + row, 5);
        // And just those of this text.
        desk.town("sun 3 0" + row, 1);
        desk.badTown("sun 3 500" + row + "?", 25);
        desk.town("sun 3 0" + row + "sun 3 1" + row, 2);
        desk.due("two rows", desk.now().told(4), 2);
    }

    private static void newNames() {
        desk.says("Terms: NAME: 1 to 8 letters, none of these words or of those of PICTURES");
        desk.fresh();
        for (String form : NAMED) {
            int place = form.indexOf('#');
            for (String name : new String[] {"a", "z", "az", "aaaaaaaa", "zzzzzzzz", "abcdefgh"}) {
                desk.town(form.replace("#", name), 1);
                desk.town(form.replace(" # ", "\n" + name + "\n"), 1);
            }
            for (String name : new String[] {"abcdefghi", "aaaaaaaaa", "zzzzzzzzzzzzzzzz", "fromfromfrom", "1", "7a", ";", "?", "A"}) {
                desk.badTown(form.replace("#", name), place);
            }
            // A NAME of one letter is taken, and what stands behind it is the fault; without a NAME it's the next token.
            desk.badTown(form.replace("#", "aB"), place + 1);
            desk.badTown(form.replace("#", "a_"), place + 1);
            desk.badTown(form.replace("#", ""), place + 1);
            for (String word : WORDS) {
                desk.badTown(form.replace("#", word), place);
                desk.town(form.replace("#", word + (word.length() < 8 ? "x" : "")), 1);
                desk.town(form.replace("#", word.substring(1)), 1);
                desk.town(form.replace("#", word.substring(0, word.length() - 1)), 1);
                desk.town(form.replace("#", "x" + word), 1);
            }
        }
    }

    private static void sameNames() {
        desk.says("Terms: NAME: .. told by no STATEMENT yet");
        desk.fresh();
        String sun = "sun 0 0 east 1 north 1;";
        for (String one : NAMED) {
            for (String other : NAMED) {
                String ahead = one.replace("#", "mill");
                int place = ahead.length() + other.indexOf('#');
                desk.badTown(ahead + other.replace("#", "mill"), place);
                desk.town(ahead + other.replace("#", "mil"), 2);
                desk.town(ahead + other.replace("#", "mills"), 2);
                desk.town(ahead + other.replace("#", "milk"), 2);
                desk.town(ahead + other.replace("#", "ill"), 2);
                desk.badTown(ahead + sun + other.replace("#", "hall") + one.replace("#", "mill"),
                    ahead.length() + sun.length() + other.replace("#", "hall").length() + one.indexOf('#'));
            }
        }
        String things = Texts.many("thing x# from 1;", 12);
        desk.badTown(things + "tree xl leaf 1 bare 2;", things.length() + 5);
        desk.town(things + "tree xm leaf 1 bare 2;", 13);
    }

    private static void namesOfOtherTexts() {
        desk.says("Terms: NAME: .. told by no STATEMENT yet (of this text: neither of the TOWN that is there nor of one with a FAULT)");
        desk.fresh("thing mill from 1;post p 1 1 1;");
        desk.badTown("thing hall from 1;tree elm leaf 1 bare 2;thing", 46);
        desk.town("thing hall from 1;tree elm leaf 1 bare 2;post mill 1 1 1;clock p slow 1 fast 1;", 4);
        desk.town("thing p from 1;tree mill leaf 1 bare 2;post elm 1 1 1;clock hall slow 1 fast 1;", 4);
    }

    private static void tokensAsLong() {
        desk.says("Terms: Tokens as long as they go: words of letters a to z, digits, signs");
        desk.fresh();
        desk.town("thing a from5give6till7give8;tree b leaf9bare10;clock c slow11fast12;sun 0 13east14north15;sun 1 16west17south18;", 5);
        desk.due("from", desk.now().told(100), 5);
        desk.due("give", desk.now().told(101), 6);
        desk.due("till", desk.now().told(102), 7);
        desk.due("its give", desk.now().told(103), 8);
        desk.badTown("thinga from 5;", 0);
        desk.badTown("thing afrom 5;", 12);
        desk.badTown("thing a from 5 6;", 15);
        desk.badTown("thing a from 5givetill 6;", 14);
        desk.badTown("thing a fromm 5;", 8);
        desk.badTown("thing a fro m 5;", 8);
        desk.badTown("thin g a from 5;", 0);
        desk.badTown("thing a from 36000;", 13);
        desk.town("thing a from 3599;", 1);
        desk.badTown("post a 1 11;", 11);
        desk.town("post a 1 1 1;", 1);
        desk.badTown("post a1 1 1 1;", 12);
        desk.town("post a1 1 1;", 1);
        desk.badTown("sun 0 1eastt 2 north 3;", 7);
    }

    private static boolean isBlank(int b) {
        return b == 32 || b == 10;
    }

    private static void everyByte() {
        desk.says("Terms: words of letters a to z, digits, signs; between them blanks (bytes 32 and 10). FAULT: the place .. (or byte that begins none)");
        desk.fresh();
        for (int b = 0; b < 256; b++) {
            boolean isLetter = b >= 'a' && b <= 'z';
            boolean isDigit = b >= '0' && b <= '9';
            // Behind a number, where ";" must come.
            String text = "thing a from 5" + (char) b + ";";
            if (isBlank(b) || isDigit) {
                desk.town(text, 1);
                desk.due("from", desk.now().told(100), isDigit ? 50 + b - '0' : 5);
            } else {
                desk.badTown(text, b == ';' ? 15 : 14);
            }
            // Where a STATEMENT must begin.
            if (isBlank(b)) {
                desk.town((char) b + "thing a from 5;", 1);
            } else {
                desk.badTown((char) b + "thing a from 5;", 0);
            }
            // As a NAME.
            if (isLetter) {
                desk.town("thing " + (char) b + " from 5;", 1);
            } else {
                desk.badTown("thing " + (char) b + " from 5;", isBlank(b) ? 8 : 6);
            }
            // Within a word.
            desk.badTown("th" + (char) b + "ing a from 5;", 0);
            // As a number.
            if (isDigit) {
                desk.town("thing a from " + (char) b + ";", 1);
            } else {
                desk.badTown("thing a from " + (char) b + ";", isBlank(b) ? 14 : 13);
            }
        }
    }

    private static void blanksAndPlaces() {
        desk.says("Terms: FAULT: the place of the first byte of the first token .. with which no such text goes on");
        desk.fresh();
        String[] texts = {"  \n 77", "thing  \n\n from", "thing a   from  \n 12345;", "thing a from 1   ?", "thing a from 1;\n\n;", "\nthing mill\n12",
            "thing a from 1;thing ab from 9999;", "thing a from 1 \u00ff", "thing a from 1 give 12 17;", "thing a from 1; tree a leaf"};
        int[] places = {4, 10, 18, 17, 17, 12, 29, 15, 23, 21};
        for (int i = 0; i < texts.length; i++) {
            desk.badTown(texts[i], places[i]);
        }
        // Just the first one, and a byte that begins no token only behind what is wrong ahead of it.
        desk.badTown("thing 5 ? from ? 1", 6);
        desk.badTown("thing a ? 5", 8);
        desk.badTown("thing a from 3600?", 13);
    }

    private static void moreMustCome() {
        desk.says("Terms: FAULT: .. the text's length, if more must come");
        desk.fresh();
        String[] statements = {"thing a from 5 give 5 till 6 give 7 ;", "tree a leaf 1 bare 2 ;", "post a 1 2 3 ;", "clock a slow 1 fast 2 ;",
            "sun 1 2 east 3 north 4 ;", "sun 1 2 west 3 south 4 ;"};
        for (String statement : statements) {
            for (int blank = statement.indexOf(' '); blank > 0; blank = statement.indexOf(' ', blank + 1)) {
                String start = statement.substring(0, blank);
                desk.badTown(start, blank);
                desk.badTown(start + "\n", blank + 1);
                desk.badTown(start + "    ", blank + 4);
                desk.badTown("sun 0 0 east 0 north 0;" + start, 23 + blank);
                // A ";" is no more of it, but where it may end there.
                boolean mayEnd = start.startsWith("thing a from ") && Character.isDigit(start.charAt(blank - 1)) || start.length() + 2 == statement.length();
                if (mayEnd) {
                    desk.town(start + " ;", 1);
                } else {
                    desk.badTown(start + " ;", blank + 1);
                }
            }
            desk.town(statement, 1);
            desk.town("sun 0 0 east 0 north 0;" + statement, 2);
        }
        // A word that is cut off is another word, not one of which more must come.
        desk.badTown("thin", 0);
        desk.badTown("thing a fro", 8);
        desk.badTown("thing a from 5 giv", 15);
        desk.badTown("sun 0 0 eas", 8);
    }

    /** A text with one of its tokens left out; where the FAULT is, is told for each token. */
    private static void withoutOne(String text, int... places) {
        String[] tokens = text.split(" ");
        for (int i = 0; i < tokens.length; i++) {
            StringBuilder rest = new StringBuilder();
            for (int j = 0; j < tokens.length; j++) {
                rest.append(j == i ? "" : tokens[j] + " ");
            }
            desk.badTown(rest.toString(), places[i]);
        }
    }

    private static void leftOut() {
        desk.says("Terms: FAULT: the place of the first byte of the first token .. with which no such text goes on (one ahead of it is missing)");
        desk.fresh();
        withoutOne("thing a from 5 give 6 till 7 give 8 ;", 0, 6, 8, 13, 15, 20, 22, 27, 29, 34, 36);
        withoutOne("tree a leaf 1 bare 2 ;", 0, 5, 7, 12, 14, 19, 21);
        withoutOne("post a 1 2 3 ;", 0, 5, 11, 11, 11, 13);
        withoutOne("clock a slow 1 fast 2 ;", 0, 6, 8, 13, 15, 20, 22);
        withoutOne("sun 1 2 east 3 north 4 ;", 0, 6, 6, 8, 13, 15, 21, 23);
        withoutOne("sun 1 2 west 3 south 4 ;", 0, 6, 6, 8, 13, 15, 21, 23);
        // Of what stands in [ ] both are left out together.
        desk.town("thing a from 5 till 7 give 8 ;", 1);
        desk.town("thing a from 5 give 6 till 7 ;", 1);
        desk.town("thing a from 5 give 6 ;", 1);
        desk.town("thing a from 5 ;", 1);
    }

    /** A text with one of its tokens told twice; where the FAULT is, is told for each token. */
    private static void withTwo(String text, int... places) {
        String[] tokens = text.split(" ");
        for (int i = 0; i < tokens.length; i++) {
            StringBuilder all = new StringBuilder();
            for (int j = 0; j < tokens.length; j++) {
                all.append(j == i ? tokens[j] + " " : "").append(tokens[j]).append(' ');
            }
            desk.badTown(all.toString(), places[i]);
        }
    }

    private static void toldTwice() {
        desk.says("Terms: FAULT: the place of the first byte of the first token .. with which no such text goes on (it's there once more)");
        desk.fresh();
        withTwo("thing a from 5 give 6 till 7 give 8 ;", 6, 8, 13, 15, 20, 22, 27, 29, 34, 36, 38);
        withTwo("tree a leaf 1 bare 2 ;", 5, 7, 12, 14, 19, 21, 23);
        withTwo("post a 1 2 3 ;", 5, 7, 13, 13, 13, 15);
        withTwo("clock a slow 1 fast 2 ;", 6, 8, 13, 15, 20, 22, 24);
        withTwo("sun 1 2 east 3 north 4 ;", 4, 8, 8, 13, 15, 21, 23, 25);
        withTwo("sun 1 2 west 3 south 4 ;", 4, 8, 8, 13, 15, 21, 23, 25);
        // Not both ways.
        desk.badTown("sun 1 2 east 3 west 4 ;", 15);
        desk.badTown("sun 1 2 north 3 east 4 ;", 8);
        desk.badTown("sun 1 2 east 3 north 4 south 5 ;", 23);
        desk.badTown("tree a bare 1 leaf 2 ;", 7);
        desk.badTown("clock a fast 1 slow 2 ;", 8);
        desk.badTown("thing a till 7 from 5 ;", 8);
    }

    private static void mostOfAKind() {
        desk.says("Terms: Up to 12 things, 6 trees, 10 posts, 4 clocks, 40 suns");
        desk.fresh();
        String[] kinds = {"thing x# from 1;", "tree x# leaf 1 bare 2;", "post x# 1 1 1;", "clock x# slow 1 fast 1;", "sun 3 %east0north0;"};
        int[] most = {12, 6, 10, 4, 40};
        for (int kind = 0; kind < 5; kind++) {
            for (int n : new int[] {most[kind] - 1, most[kind]}) {
                desk.town(Texts.many(kinds[kind], n), n);
                for (int other = 0; other < 5; other++) {
                    desk.due("told " + other, desk.now().told(other), other == kind ? n : 0);
                }
                desk.due("statements", desk.now().told(5), n);
            }
        }
        // Each kind has room of its own: as many as 60 STATEMENTS take of each.
        String some = Texts.many("thing t# from 1;", 12) + Texts.many("tree e# leaf 1 bare 2;", 6) + Texts.many("post p# 1 1 1;", 10) + Texts.many("clock c# slow 1 fast 1;", 4);
        desk.town(some + Texts.many("sun 0 %east0north0;", 28), 60);
        for (int kind = 0; kind < 5; kind++) {
            desk.due("told " + kind, desk.now().told(kind), new int[] {12, 6, 10, 4, 28}[kind]);
        }
        // Suns of several MONTHS are counted together.
        desk.town(Texts.many("sun 0 %east0north0;", 20) + Texts.many("sun 11 %east0north0;", 20), 40);
    }

    private static void oneTooMany() {
        desk.says("Terms: FAULT: .. (.. the 13th thing's, seventh tree's, 11th post's, fifth clock's NAME, the 41st sun's MONTH, too)");
        desk.fresh();
        String[] kinds = {"thing x# from 1;", "tree x# leaf 1 bare 2;", "post x# 1 1 1;", "clock x# slow 1 fast 1;"};
        String[] words = {"thing", "tree", "post", "clock"};
        int[] most = {12, 6, 10, 4};
        String other = "sun 0 5 east 1 north 1;";
        for (int kind = 0; kind < 4; kind++) {
            String all = Texts.many(kinds[kind], most[kind]);
            String next = kinds[kind].replace("#", "z");
            int place = all.length() + words[kind].length() + 1;
            desk.badTown(all + next, place);
            desk.badTown(all + next.replace("xz", "xa"), place);
            desk.badTown(all + other + next, place + other.length());
            desk.badTown(all + words[kind] + " ", all.length() + words[kind].length() + 1);
            desk.badTown(all + words[kind] + "  7", place + 1);
            desk.badTown(all + words[kind] + ";", place - 1);
            desk.badTown(next + all, next.length() + all.lastIndexOf("x", all.length()));
            desk.town(all + other, most[kind] + 1);
        }
        String suns = Texts.many("sun 0 %east0north0;", 20) + Texts.many("sun 11 %east0north0;", 20);
        for (String next : new String[] {"sun 1 1 east 0 north 0;", "sun 0 100 east 0 north 0;", "sun 12", "sun x", "sun ;"}) {
            desk.badTown(suns + next, suns.length() + 4);
            desk.badTown(suns + " \n" + next, suns.length() + 6);
        }
        desk.badTown(suns + "sun", suns.length() + 3);
        desk.badTown(suns + "sun  ", suns.length() + 5);
        desk.town(suns + "thing a from 1;", 41);
    }

    private static void sixtyStatements() {
        desk.says("Terms: 60 STATEMENTS. FAULT: .. the 61st STATEMENT: where it begins.");
        desk.fresh();
        String fiftyNine = Texts.many("thing x# from1;", 12) + Texts.many("post p# 1 1 1;", 10) + Texts.many("sun 0 %east0north0;", 37);
        String sixty = fiftyNine + "sun 1 1east0north0;";
        desk.town(fiftyNine, 59);
        desk.town(sixty, 60);
        desk.due("statements", desk.now().told(5), 60);
        desk.town(sixty + " \n ", 60);
        String[] next = {"tree e leaf 1 bare 2;", "thing x from 1;", "thing xa from 1;", "post p 1 1 1;", "sun 2 1 east 0 north 0;", "sun 0 0", "clock",
            "?", ";", "77", "tree 7"};
        for (String one : next) {
            desk.badTown(sixty + one, sixty.length());
            desk.badTown(sixty + " \n" + one, sixty.length() + 2);
        }
        desk.town(fiftyNine + "tree e leaf 1 bare 2;", 60);
        desk.badTown(fiftyNine + "tree e leaf 1 bare 2;tree f leaf 1 bare 2;", fiftyNine.length() + 21);
        // The 60th may begin, and faults at its NAME if it's a 13th thing.
        desk.badTown(fiftyNine + "thing y from 1;", fiftyNine.length() + 6);
    }

    private static void takenTown() {
        desk.says("Terms: Taken it's the TOWN: PICTURES, IMAGES there were are gone, weights are 1.");
        for (String text : new String[] {"", "thing m from 7 give 3;", "thing n from 8;post p 9 9 9;"}) {
            PlateDay x = desk.fresh("thing m from 7 give 3;post p 1 2 3;sun 0 0 east 1 north 1;");
            for (int i = 0; i < 8; i++) {
                desk.picture("stands m;week " + i % 7 + ";", i);
            }
            for (int month = 0; month < 12; month++) {
                x.weight(month, 99 - month);
            }
            for (int i = 0; i < 4; i++) {
                desk.due("an image", x.image(), i);
            }
            desk.feed(text);
            desk.due("taken", x.town(text.length()), text.length() - text.replace(";", "").length());
            desk.due("two towns", x.count(0), 2);
            desk.due("pictures are gone", x.count(1), 0);
            desk.due("signs are gone", x.count(4), 0);
            desk.due("images are gone", x.count(3), 0);
            for (int i = 0; i < 8; i++) {
                desk.due("picture " + i, x.all(i), -1);
            }
            for (int i = 0; i < 4; i++) {
                desk.due("image " + i, x.back(i), false);
            }
            for (int month = 0; month < 12; month++) {
                desk.due("weights are 1", x.count(10 + month), 1);
            }
            desk.due("no sun but its own", x.shadow(0, 0, 0, 0), -1000000);
            desk.due("no post but its own", x.told(200), text.contains("post") ? 9 : -1);
            desk.picture("week 1;", 0);
            desk.due("the first image", x.image(), 0);
            desk.due("one", x.count(3), 1);
        }
    }

    private static void sameTownAgain() {
        desk.says("Promise 27: 0 TOWNS taken (the same text again, too; none with a FAULT)");
        PlateDay x = desk.fresh();
        for (int i = 1; i <= 5; i++) {
            desk.town("thing m from 7;", 1);
            desk.due("taken", x.count(0), i);
            desk.badTown("thing", 5);
            desk.due("a fault is none", x.count(0), i);
            desk.due("nor is a refused one", x.town(1), -2);
            desk.due("as many", x.count(0), i);
            desk.picture("week 1;", 0);
            desk.due("nor is a picture", x.count(0), i);
        }
    }

    private static void latestFault() {
        desk.says("Promise 6: The FAULT's place of the latest town(), picture(), more() that was a number or NONE; NONE: it had none.");
        PlateDay x = desk.fresh();
        desk.due("none yet", x.fault(), -1);
        desk.due("a refused one", x.town(1), -2);
        desk.due("is no latest one", x.fault(), -1);
        desk.badTown("?", 0);
        desk.town("thing m from 7;", 1);
        desk.badTown("thing", 5);
        desk.picture("week 1;", 0);
        desk.badTown("thing m", 7);
        desk.more(0, "week 1;", 2);
        desk.badPicture("year", 4);
        desk.town("", 0);
        desk.badPicture("week 77;", 5);
        for (int i = 0; i < 8; i++) {
            desk.picture("week 1;", i);
        }
        desk.badMore(0, "week 1;week 1;?", 14);
        desk.feed("week 1;");
        desk.due("refused: below 0", x.town(-1), -2);
        desk.due("as it was", x.fault(), 14);
        desk.due("refused: too many", x.picture(21), -2);
        desk.due("as it was", x.fault(), 14);
        desk.due("refused: eight are there", x.picture(7), -3);
        desk.due("as it was", x.fault(), 14);
        desk.due("refused: no such picture", x.more(8, 7), -2);
        desk.due("as it was", x.fault(), 14);
        desk.due("refused: below 0", x.more(0, -1), -2);
        desk.due("as it was", x.fault(), 14);
        desk.due("other calls", x.image() + x.all(0) + (x.back(0) ? 1 : 0) + (x.weight(0, 1) ? 1 : 0), 720 * 515 + 2);
        desk.due("as it was", x.fault(), 14);
        desk.due("a number", x.more(0, 7), 2);
        desk.due("has none", x.fault(), -1);
        desk.due("a fault at 0", x.more(0, 0), -1);
        desk.due("is 0", x.fault(), 0);
        desk.due("a number", x.town(0), 0);
        desk.due("has none", x.fault(), -1);
    }

    private static void toldCounts() {
        desk.says("Promise 7: 0 things, 1 trees, 2 posts, 3 clocks, 4 suns, 5 STATEMENTS .. NONE: none such.");
        PlateDay x = desk.fresh("thing a from 1;sun 0 0 east 0 north 0;tree b leaf 1 bare 2;post c 1 1 1;sun 5 0 east 0 north 0;clock d slow 1 fast 1;"
            + "tree e leaf 1 bare 2;sun 5 1 east 0 north 0;clock f slow 1 fast 1;clock g slow 1 fast 1;post h 1 1 1;clock i slow 1 fast 1;");
        int[] due = {1, 2, 2, 4, 3, 12};
        for (int what = 0; what < 6; what++) {
            desk.due("told " + what, x.told(what), due[what]);
        }
        for (int what : new int[] {-1, -2, 6, 7, 10, 99, 104, 199, 206, Integer.MIN_VALUE, Integer.MAX_VALUE}) {
            desk.due("told " + what, x.told(what), -1);
        }
    }

    private static void toldThings() {
        desk.says("Promise 7: of thing i: 100 + 4 i \"from\", 101 its GIVE, 102 \"till\" (NONE), 103 its GIVE .. NONE: none such.");
        for (int n : new int[] {0, 1, 11, 12}) {
            StringBuilder text = new StringBuilder();
            for (int i = 0; i < n; i++) {
                text.append("thing x").append((char) ('a' + i)).append(" from ").append(i == 0 ? 0 : 100 * i).append(" give ").append(99 - i)
                    .append(" till ").append(3599 - i).append(" give ").append(i).append(';');
            }
            PlateDay x = desk.fresh();
            desk.town(text.toString(), n);
            for (int i = 0; i < n; i++) {
                desk.due("from of " + i, x.told(100 + 4 * i), 100 * i);
                desk.due("its give", x.told(101 + 4 * i), 99 - i);
                desk.due("till of " + i, x.told(102 + 4 * i), 3599 - i);
                desk.due("its give", x.told(103 + 4 * i), i);
            }
            for (int what = 100 + 4 * n; what < 152; what++) {
                desk.due("none such " + what, x.told(what), -1);
            }
        }
    }

    private static void toldPosts() {
        desk.says("Promise 7: of post i: 200 + 3 i x, 201 y, 202 HIGH. NONE: none such.");
        for (int n : new int[] {0, 1, 9, 10}) {
            StringBuilder text = new StringBuilder();
            for (int i = 0; i < n; i++) {
                text.append("post x").append((char) ('a' + i)).append(' ').append(i).append(' ').append(31 - i).append(' ').append(20 - i).append(';');
            }
            PlateDay x = desk.fresh();
            desk.town(text.toString(), n);
            for (int i = 0; i < n; i++) {
                desk.due("x of " + i, x.told(200 + 3 * i), i);
                desk.due("y of " + i, x.told(201 + 3 * i), 31 - i);
                desk.due("high of " + i, x.told(202 + 3 * i), 20 - i);
            }
            for (int what = 200 + 3 * n; what < 234; what++) {
                desk.due("none such " + what, x.told(what), -1);
            }
        }
    }
}
