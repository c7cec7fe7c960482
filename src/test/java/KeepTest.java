/** Promises 25 to 27: images, bringing them back, and counts. */
public final class KeepTest {
    private static final Desk desk = new Desk("KeepTest");
    private static PlateDay x;

    public static void main(String[] args) {
        images();
        apart();
        whatStays();
        counts();
        desk.close();
    }

    private static void images() {
        x = desk.fresh("thing m from 100 give 10 till 200;");
        desk.due("an image of nothing", x.image(), 0);
        desk.picture("stands m;", 0);
        x.weight(5, 9);
        desk.due("the second", x.image(), 1);
        desk.picture("year 2;", 1);
        desk.more(0, "year 0;week 2;", 3);
        x.weight(5, 0);
        desk.due("the third", x.image(), 2);
        desk.due("the fourth", x.image(), 3);
        desk.due("no fifth", x.image(), -1);
        desk.due("no fifth", x.count(3), 4);
        int all = x.all(0);

        desk.due("back to the second", x.back(1), true);
        desk.due("one picture", x.count(1), 1);
        desk.due("one sign", x.count(4), 1);
        desk.due("its weight", x.count(15), 9);
        desk.due("its moments", x.all(0), 720 * 111);
        desk.due("its signs", x.sign(0, 1, 0), -1);
        desk.due("no second picture", x.all(1), -1);
        desk.due("back to nothing", x.back(0), true);
        desk.due("no pictures", x.count(1), 0);
        desk.due("no signs", x.count(4), 0);
        desk.due("weight 1", x.count(15), 1);
        desk.due("back to the third", x.back(2), true);
        desk.due("two pictures", x.count(1), 2);
        desk.due("four signs", x.count(4), 4);
        desk.due("weight 0", x.count(15), 0);
        desk.due("its moments", x.all(0), all);
        desk.due("the other's moments", x.all(1), 720 * 360);
        desk.due("again", x.back(1), true);
        desk.due("weight 9 again", x.count(15), 9);
        desk.due("images stay", x.count(3), 4);
        for (int i : new int[] {-1, 4, 5, Integer.MIN_VALUE, Integer.MAX_VALUE}) {
            desk.due("no image " + i, x.back(i), false);
        }
        desk.due("as it was", x.count(1), 1);
    }

    private static void apart() {
        x = desk.fresh("thing m from 100 give 10 till 200;");
        desk.due("none yet", x.back(0), false);
        desk.picture("stands m;", 0);
        x.image();
        desk.more(0, "week 1;", 2);
        x.weight(0, 50);
        x.back(0);
        desk.due("more changes no image", x.count(4), 1);
        desk.due("weight changes no image", x.count(10), 1);
        desk.more(0, "week 2;", 2);
        x.weight(0, 60);
        x.back(0);
        desk.due("nor what comes behind back", x.count(4), 1);
        desk.due("nor what comes behind back", x.count(10), 1);
        desk.due("nor its moments", x.all(0), 720 * 111);
        desk.picture("year 1;", 1);
        desk.due("the next image", x.image(), 1);
        desk.due("the first has one picture", x.back(0), true);
        desk.due("one", x.count(1), 1);
        desk.picture("year 3;", 1);
        desk.due("the second has its own", x.back(1), true);
        desk.due("year 1", x.sign(1, 0, 1), 1);
        desk.due("its first day", x.days(1, 0), 360);
    }

    private static void whatStays() {
        x = desk.fresh("thing m from 100 give 10 till 200;");
        desk.picture("stands m;", 0);
        x.image();
        desk.badPicture("year x;", 5);
        desk.feed("year 1;year 2;");
        x.back(0);
        desk.due("the tape stays", x.count(2), 20);
        desk.due("the fault stays", x.fault(), 5);
        desk.due("the town stays", x.told(100), 100);
        desk.due("towns taken", x.count(0), 1);
        desk.due("what was on the tape", x.picture(14), 1);
        desk.town("", 0);
        desk.due("a town takes images away", x.back(0), false);
        desk.due("their numbers begin again", x.image(), 0);
    }

    private static void counts() {
        x = desk.fresh("thing m from 1;");
        desk.town("thing m from 2;", 1);
        desk.badTown("thing", 5);
        desk.picture("year 1;year 2;year 3;", 0);
        desk.picture("week 1;", 1);
        x.weight(0, 20);
        x.weight(11, 30);
        x.image();
        x.image();
        x.feed(0, 0, 0, 0, 0);
        x.feed(0, 0, 0, 0, 0);
        int[] due = {2, 2, 40, 2, 4, -1, -1, -1, -1, -1, 20, 1, 1, 1, 1, 1, 1, 1, 1, 1, 1, 30, -1, -1};
        for (int what = 0; what < due.length; what++) {
            desk.due("count " + what, x.count(what), due[what]);
        }
        desk.due("count -1", x.count(-1), -1);
        desk.due("count", x.count(Integer.MIN_VALUE), -1);
        desk.due("count", x.count(Integer.MAX_VALUE), -1);
    }
}
