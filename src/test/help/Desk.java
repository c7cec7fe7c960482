/** A PlateDay and what its answers should be; counts those that aren't. */
final class Desk {
    private final String test;
    private PlateDay day = new PlateDay();
    private int asked;
    private int wrong;

    Desk(String test) {
        this.test = test;
    }

    /** Goes on with a new object. */
    PlateDay fresh() {
        day = new PlateDay();
        return day;
    }

    /** Goes on with a new object that has a TOWN. */
    PlateDay fresh(String town) {
        fresh();
        town(town, town.length() - town.replace(";", "").length());
        return day;
    }

    void due(String what, long got, long want) {
        asked++;
        if (got != want) {
            wrong++;
            System.out.println(test + ": " + what + ": answered " + got + ", due is " + want);
        }
    }

    void due(String what, boolean got, boolean want) {
        due(what, got ? 1 : 0, want ? 1 : 0);
    }

    /** Puts a text on the tape, filled up with signs that are in no text. */
    void feed(String text) {
        for (int i = 0; i < text.length(); i += 20) {
            int[] v = new int[5];
            for (int j = 0; j < 20; j++) {
                v[j / 4] = v[j / 4] << 8 | (i + j < text.length() ? text.charAt(i + j) : '#');
            }
            day.feed(v[0], v[1], v[2], v[3], v[4]);
        }
    }

    void town(String text, int statements) {
        feed(text);
        due("town " + text, day.town(text.length()), statements);
        due("its fault", day.fault(), -1);
    }

    void badTown(String text, int place) {
        feed(text);
        due("bad town " + text, day.town(text.length()), -1);
        due("fault of town " + text, day.fault(), place);
        due("tape behind a fault", day.count(2), 0);
    }

    void picture(String text, int number) {
        feed(text);
        due("picture " + text, day.picture(text.length()), number);
        due("its fault", day.fault(), -1);
    }

    void badPicture(String text, int place) {
        feed(text);
        due("bad picture " + text, day.picture(text.length()), -1);
        due("fault of picture " + text, day.fault(), place);
        due("tape behind a fault", day.count(2), 0);
    }

    void more(int picture, String text, int signs) {
        feed(text);
        due("more " + text, day.more(picture, text.length()), signs);
        due("its fault", day.fault(), -1);
    }

    void badMore(int picture, String text, int place) {
        feed(text);
        due("bad more " + text, day.more(picture, text.length()), -1);
        due("fault of more " + text, day.fault(), place);
    }

    /** Tells how it went, and ends the program with 1 if something was wrong. */
    void close() {
        System.out.println(test + ": " + asked + " answers, " + wrong + " not as due");
        if (wrong > 0) {
            System.exit(1);
        }
    }
}
