import java.util.ArrayList;
import java.util.List;

/** Whole runs drawn by lot, each answer against the one of the slow model; an argument tells how many runs. */
public final class ModelTest {
    private static final int[] WILD = {-1000000, -721, -720, -719, -3, -2, -1, 0, 1, 2, 3, 4, 5, 6, 7, 8, 9, 10, 11, 12, 13, 19, 20, 21, 22,
        31, 32, 99, 100, 101, 102, 103, 107, 147, 148, 200, 229, 230, 255, 256, 359, 360, 719, 720, 1023, 1024, 3599, 3600,
        Integer.MIN_VALUE, Integer.MIN_VALUE + 1, Integer.MAX_VALUE, Integer.MAX_VALUE - 1};

    private final Chance chance;
    private final Texts texts;
    private final PlateDay real = new PlateDay();
    private final Model model = new Model();
    private final StringBuilder trace = new StringBuilder();
    private int calls;
    private int wrong;
    private int pictures;

    private ModelTest(long seed) {
        chance = new Chance(seed);
        texts = new Texts(chance);
    }

    private void due(String call, long got, long want) {
        calls++;
        trace.append(call).append(" = ").append(want).append('\n');
        if (got != want) {
            wrong++;
            System.out.println(call + " answered " + got + ", due is " + want);
        }
    }

    private static long of(boolean b) {
        return b ? 1 : 0;
    }

    /** Puts a text on the tape, what is left of the last twenty bytes filled up with something. */
    private void feed(String text) {
        String filler = chance.of(List.of(" ", ";", "x", "\u00ff"));
        int length = (text.length() + 19) / 20 * 20;
        StringBuilder whole = new StringBuilder(text);
        while (whole.length() < length) {
            whole.append(filler);
        }
        for (int i = 0; i < length; i += 20) {
            int[] v = new int[5];
            for (int j = 0; j < 20; j++) {
                v[j / 4] = v[j / 4] << 8 | whole.charAt(i + j);
            }
            due("feed", real.feed(v[0], v[1], v[2], v[3], v[4]), model.feed(v[0], v[1], v[2], v[3], v[4]));
        }
        trace.append(whole, 0, text.length()).append('\n');
    }

    private void town() {
        List<String> tokens = texts.town();
        if (chance.oneIn(4)) {
            texts.spoil(tokens);
        }
        String text = texts.join(tokens);
        if (text.length() > 1200) {
            text = text.substring(0, 1200);
        }
        feed(text);
        due("town", real.town(text.length()), model.town(text.length()));
        due("fault", real.fault(), model.fault());
        pictures = model.count(1);
        for (int what = -1; what < 240 && chance.oneIn(10); what++) {
            due("told " + what, real.told(what), model.told(what));
        }
    }

    private void picture() {
        List<String> tokens = texts.signs(chance.oneIn(6) ? 12 : 5);
        if (chance.oneIn(5)) {
            texts.spoil(tokens);
        }
        String text = texts.join(tokens);
        text = text.substring(0, Math.min(1200, text.length()));
        feed(text);
        if (model.count(1) > 0 && chance.oneIn(3)) {
            int to = chance.below(model.count(1));
            due("more " + to, real.more(to, text.length()), model.more(to, text.length()));
        } else {
            due("picture", real.picture(text.length()), model.picture(text.length()));
        }
        due("fault", real.fault(), model.fault());
        pictures = model.count(1);
    }

    private int wild() {
        return chance.of(WILD);
    }

    private int wildOr(int usual) {
        return chance.oneIn(12) ? wild() : usual;
    }

    private int somePicture() {
        return wildOr(pictures == 0 ? 0 : chance.below(pictures));
    }

    private int someMonth() {
        return wildOr(chance.below(12));
    }

    private void ask() {
        int p = somePicture();
        int what = chance.from(-1, 3);
        switch (chance.below(22)) {
            case 0 -> {
                int k = chance.from(-1, 12);
                int day = wildOr(chance.below(3600));
                int minute = wildOr(chance.below(720));
                due("lets " + p + " " + k + " " + day + " " + minute, real.lets(p, k, day, minute), model.lets(p, k, day, minute));
            }
            case 1 -> {
                int post = wildOr(chance.below(10));
                int month = someMonth();
                int minute = wildOr(chance.below(720));
                due("shadow " + post + " " + month + " " + minute, real.shadow(post, month, minute, what), model.shadow(post, month, minute, what));
            }
            case 2 -> due("all " + p, real.all(p), model.all(p));
            case 3 -> {
                int k = wildOr(chance.below(Math.max(1, model.days(p, -1) + 2)) - 1);
                due("days " + p + " " + k, real.days(p, k), model.days(p, k));
            }
            case 4, 5 -> {
                int k = wildOr(chance.below(Math.max(1, model.runs(p, -1, 0) + 2)) - 1);
                due("runs " + p + " " + k + " " + what, real.runs(p, k, what), model.runs(p, k, what));
            }
            case 6 -> {
                int day = wildOr(chance.below(3600));
                int minute = wildOr(chance.below(720));
                due("judge " + p + " " + day + " " + minute, real.judge(p, day, minute), model.judge(p, day, minute));
            }
            case 7 -> due("quarrel " + p, real.quarrel(p), model.quarrel(p));
            case 8 -> due("doubt " + p + " " + what, real.doubt(p, what), model.doubt(p, what));
            case 9 -> {
                boolean over = chance.oneIn(2);
                int k = wildOr(chance.below(Math.max(1, model.stood(p, over, -1) + 2)) - 1);
                due("stood " + p + " " + over + " " + k, real.stood(p, over, k), model.stood(p, over, k));
            }
            case 10, 11 -> {
                int n = wildOr(chance.from(-1, 99));
                n = chance.oneIn(3) ? -1 : n;
                due("late " + p + " " + n, real.late(p, n), model.late(p, n));
            }
            case 12 -> couples(p, what);
            case 13 -> {
                int month = someMonth();
                int v = chance.oneIn(3) ? 0 : wildOr(chance.below(100));
                due("weight " + month + " " + v, of(real.weight(month, v)), of(model.weight(month, v)));
            }
            case 14 -> due("likely " + p + " " + what, real.likely(p, what), model.likely(p, what));
            case 15, 16 -> {
                int thing = wildOr(chance.below(12));
                due("look " + p + " " + thing + " " + what, real.look(p, thing, what), model.look(p, thing, what));
            }
            case 17 -> due("next " + p, real.next(p), model.next(p));
            case 18 -> {
                int set = wildOr(chance.from(1, Math.max(1, (1 << pictures) - 1)));
                due("cloud " + set + " " + what, real.cloud(set, what), model.cloud(set, what));
            }
            case 19 -> {
                int n = wildOr(chance.of(-1, 2, 10, 22));
                due("count " + n, real.count(n), model.count(n));
            }
            case 20 -> {
                int k = chance.from(-1, 12);
                int j = chance.from(-1, 5);
                due("sign " + p + " " + k + " " + j, real.sign(p, k, j), model.sign(p, k, j));
            }
            default -> {
                int n = wild();
                due("told " + n, real.told(n), model.told(n));
            }
        }
    }

    private void couples(int p, int what) {
        int q = somePicture();
        int a = wildOr(chance.from(-60, 60));
        int b = wildOr(a > 700 || a < -719 ? a : a + chance.below(80));
        due("couples " + p + " " + q + " " + a + " " + b + " " + what, real.couples(p, q, a, b, what), model.couples(p, q, a, b, what));
    }

    private void keep() {
        if (chance.oneIn(2)) {
            due("image", real.image(), model.image());
        } else {
            int i = wildOr(chance.below(4));
            due("back " + i, of(real.back(i)), of(model.back(i)));
        }
        pictures = model.count(1);
        for (int what = 0; what < 5; what++) {
            due("count " + what, real.count(what), model.count(what));
        }
    }

    /** Calls about the tape that mostly do nothing. */
    private void refuse() {
        int n = wild();
        int p = somePicture();
        if (n >= 0 && n <= model.count(2)) {
            n = -1;
        }
        due("town " + n, real.town(n), model.town(n));
        due("picture " + n, real.picture(n), model.picture(n));
        due("more " + n, real.more(p, n), model.more(p, n));
        due("fault", real.fault(), model.fault());
    }

    private int run() {
        town();
        picture();
        while (calls < 460) {
            int what = chance.below(60);
            if (what == 0 && calls < 380) {
                town();
            } else if (what < 6 && calls < 400) {
                picture();
            } else if (what < 9) {
                keep();
            } else if (what == 9) {
                refuse();
            } else {
                ask();
            }
        }
        return wrong;
    }

    public static void main(String[] args) {
        int runs = args.length > 0 ? Integer.parseInt(args[0]) : 60;
        int first = args.length > 1 ? Integer.parseInt(args[1]) : 1;
        List<Integer> bad = new ArrayList<>();
        for (int seed = first; seed < first + runs; seed++) {
            ModelTest test = new ModelTest(seed);
            if (test.run() > 0) {
                bad.add(seed);
                if (bad.size() == 1) {
                    System.out.println("run " + seed + ":\n" + test.trace);
                }
            }
        }
        System.out.println(bad.isEmpty() ? "ModelTest: " + runs + " runs as due" : "ModelTest: not as due: runs " + bad);
        if (!bad.isEmpty()) {
            System.exit(1);
        }
    }
}
