import java.util.ArrayList;
import java.util.List;

/**
 * A PlateDay and what its answers should be; counts those that aren't. An object is promised for 512 calls only, so the calls are counted, too;
 * ready() goes on with a new object that was told the same texts.
 */
final class Desk {
    private static final int MOST_CALLS = 512;

    private record Told(int picture, String text) {
    }

    private static final int TOWN = -2;
    private static final int NEW_PICTURE = -1;

    private final String test;
    private final List<Told> texts = new ArrayList<>();
    private PlateDay day = new PlateDay();
    private int calls;
    private int asked;
    private int wrong;
    private int sentences;
    private String sentence = "";
    private List<String> kept = List.of();

    Desk(String test) {
        this.test = test;
    }

    /** Goes on with a new object. */
    PlateDay fresh() {
        day = new PlateDay();
        calls = 0;
        texts.clear();
        return day;
    }

    /** Goes on with a new object that has a TOWN. */
    PlateDay fresh(String town) {
        fresh();
        town(town, town.length() - town.replace(";", "").length());
        return day;
    }

    PlateDay now() {
        return day;
    }

    /** An object that takes so many calls more: the one in use, or a new one that was told the same texts. */
    PlateDay ready(int more) {
        if (calls + more > MOST_CALLS) {
            again();
        }
        return day;
    }

    /** Goes on with a new object that was told the same TOWN, and no PICTURES. */
    void anew() {
        texts.removeIf(one -> one.picture != TOWN);
        again();
    }

    private void again() {
        day = new PlateDay();
        calls = 0;
        for (Told one : texts) {
            feed(one.text);
            int n = one.text.length();
            calls++;
            int answer = one.picture == TOWN ? day.town(n) : one.picture == NEW_PICTURE ? day.picture(n) : day.more(one.picture, n);
            if (answer < 0) {
                tell("told again, not taken: " + one.text);
            }
        }
    }

    /** The sentence of the document that the answers from here on are about. */
    void says(String one) {
        sentence = one;
        sentences++;
    }

    private void tell(String what) {
        wrong++;
        System.out.println(test + ": " + what + (sentence.isEmpty() ? "" : "\n    The document: " + sentence));
    }

    void due(String what, long got, long want) {
        asked++;
        calls++;
        if (calls > MOST_CALLS) {
            tell(what + ": call " + calls + " of one object");
        }
        if (got != want) {
            tell(what + ": answered " + got + ", due is " + want);
        }
    }

    /** Notes what the object answers now. */
    void keep() {
        kept = State.of(day);
        calls += kept.size();
    }

    /** What the object answers now must be what was noted. */
    void same(String what) {
        List<String> now = State.of(day);
        calls += now.size();
        asked++;
        if (calls > MOST_CALLS) {
            tell(what + ": call " + calls + " of one object");
        }
        for (int i = 0; i < Math.max(now.size(), kept.size()); i++) {
            String was = i < kept.size() ? kept.get(i) : "nothing";
            String is = i < now.size() ? now.get(i) : "nothing";
            if (!was.equals(is)) {
                tell(what + ": was " + was + ", is " + is);
                return;
            }
        }
    }

    void due(String what, boolean got, boolean want) {
        due(what, got ? 1 : 0, want ? 1 : 0);
    }

    /** Puts a text on the tape, filled up with signs that are in no text. */
    void feed(String text) {
        for (int i = 0; i < text.length(); i += 20) {
            int[] v = new int[5];
            for (int j = 0; j < 20; j++) {
                v[j / 4] = v[j / 4] << 8 | (i + j < text.length() ? text.charAt(i + j) : '#');
            }
            calls++;
            day.feed(v[0], v[1], v[2], v[3], v[4]);
        }
    }

    private int callsFor(String text) {
        return text.length() / 20 + 4;
    }

    void town(String text, int statements) {
        ready(callsFor(text));
        feed(text);
        due("town " + text, day.town(text.length()), statements);
        due("its fault", day.fault(), -1);
        texts.clear();
        texts.add(new Told(TOWN, text));
    }

    void badTown(String text, int place) {
        ready(callsFor(text));
        feed(text);
        due("bad town " + text, day.town(text.length()), -1);
        due("fault of town " + text, day.fault(), place);
        due("tape behind a fault", day.count(2), 0);
    }

    void picture(String text, int number) {
        ready(callsFor(text));
        feed(text);
        due("picture " + text, day.picture(text.length()), number);
        due("its fault", day.fault(), -1);
        texts.add(new Told(NEW_PICTURE, text));
    }

    void badPicture(String text, int place) {
        ready(callsFor(text));
        feed(text);
        due("bad picture " + text, day.picture(text.length()), -1);
        due("fault of picture " + text, day.fault(), place);
        due("tape behind a fault", day.count(2), 0);
    }

    void more(int picture, String text, int signs) {
        ready(callsFor(text));
        feed(text);
        due("more " + text, day.more(picture, text.length()), signs);
        due("its fault", day.fault(), -1);
        texts.add(new Told(picture, text));
    }

    void badMore(int picture, String text, int place) {
        ready(callsFor(text));
        feed(text);
        due("bad more " + text, day.more(picture, text.length()), -1);
        due("fault of more " + text, day.fault(), place);
    }

    /** Tells how it went, and ends the program with 1 if something was wrong. */
    void close() {
        String about = sentences == 0 ? "" : sentences + " sentences, ";
        System.out.println(test + ": " + about + asked + " answers, " + wrong + " not as due");
        if (wrong > 0) {
            System.exit(1);
        }
    }
}
