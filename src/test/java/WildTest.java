import java.util.List;

/**
 * Whatever the arguments and the state, no call throws, a call that is none such changes nothing that is told, and the same calls give the
 * same answers.
 */
public final class WildTest {
    private static final int[] WILD = {Integer.MIN_VALUE, Integer.MIN_VALUE + 1, -1000000, -721, -720, -719, -100, -33, -32, -13, -12, -9, -8, -3, -2,
        -1, 0, 1, 2, 3, 4, 5, 6, 7, 8, 9, 10, 11, 12, 13, 19, 20, 21, 22, 23, 31, 32, 33, 59, 60, 99, 100, 101, 102, 103, 104, 143, 147, 148, 149,
        199, 200, 201, 202, 229, 230, 254, 255, 256, 257, 358, 359, 360, 511, 512, 718, 719, 720, 721, 1022, 1023, 1024, 1180, 1199, 1200, 1201,
        3239, 3598, 3599, 3600, 3601, 4095, 4096, 1 << 29, 1 << 30, Integer.MAX_VALUE - 1, Integer.MAX_VALUE};
    private static int wrong;

    public static void main(String[] args) {
        for (int seed = 1; seed <= 400; seed++) {
            long one = run(seed);
            if (seed % 20 == 0 && run(seed) != one) {
                wrong++;
                System.out.println("run " + seed + " twice: other answers");
            }
        }
        everyPicture();
        System.out.println("WildTest: " + (wrong == 0 ? "no call throws" : wrong + " wrong"));
        if (wrong > 0) {
            System.exit(1);
        }
    }

    private static long run(int seed) {
        Chance chance = new Chance(seed);
        Texts texts = new Texts(chance);
        PlateDay x = new PlateDay();
        long answers = 0;
        int made = 0;
        String call = "";
        try {
            while (made < 440) {
                int what = chance.below(40);
                int n = 1;
                if (what < 3) {
                    List<String> tokens = what == 0 ? texts.town() : texts.signs(12);
                    if (chance.oneIn(3)) {
                        texts.spoil(tokens);
                    }
                    String text = texts.join(tokens);
                    n = feed(x, text) + 1;
                    call = what + " " + text;
                    answers = 31 * answers + (what == 0 ? x.town(text.length()) : what == 1 ? x.picture(text.length())
                        : x.more(chance.below(8), text.length()));
                } else {
                    call = "call " + what;
                    answers = 31 * answers + ask(x, chance, what % 27);
                }
                made += n;
            }
        } catch (RuntimeException e) {
            wrong++;
            System.out.println("run " + seed + ", behind " + call + ": " + e);
        }
        return answers;
    }

    private static int feed(PlateDay x, String text) {
        int n = 0;
        for (int i = 0; i < text.length(); i += 20) {
            int[] v = new int[5];
            for (int j = 0; j < 20; j++) {
                v[j / 4] = v[j / 4] << 8 | (i + j < text.length() ? text.charAt(i + j) : 0);
            }
            x.feed(v[0], v[1], v[2], v[3], v[4]);
            n++;
        }
        return n;
    }

    private static long ask(PlateDay x, Chance chance, int what) {
        int a = chance.oneIn(2) ? chance.below(8) : chance.of(WILD);
        int b = chance.of(WILD);
        int c = chance.of(WILD);
        int d = chance.of(WILD);
        int e = chance.oneIn(2) ? chance.below(4) : chance.of(WILD);
        switch (what) {
            case 0:
                return x.feed(a, b, c, d, e);
            case 1:
                return chance.oneIn(8) ? x.town(b) : 0;
            case 2:
                return x.picture(b);
            case 3:
                return x.more(a, b);
            case 4:
                return x.fault();
            case 5:
                return x.told(b);
            case 6:
                return x.sign(a, b, e);
            case 7:
                return x.lets(a, b, c, d);
            case 8:
                return x.shadow(a, b, c, e);
            case 9:
                return x.all(a);
            case 10:
                return x.days(a, b);
            case 11:
                return x.runs(a, b, e);
            case 12:
                return x.judge(a, b, c);
            case 13:
                return x.quarrel(a);
            case 14:
                return x.doubt(a, e);
            case 15:
                return x.stood(a, chance.oneIn(2), b);
            case 16:
                return x.late(a, b);
            case 17:
                return x.couples(a, chance.below(9) - 1, c, d, e);
            case 18:
                return x.weight(b, c) ? 1 : 0;
            case 19:
                return x.likely(a, e);
            case 20:
                return x.look(a, b, e);
            case 21:
                return x.next(a);
            case 22:
                return x.cloud(b, e);
            case 23:
                return x.image();
            case 24:
                return x.back(b) ? 1 : 0;
            default:
                return x.count(b);
        }
    }

    /** A full town and eight full pictures, asked everything. */
    private static void everyPicture() {
        StringBuilder town = new StringBuilder();
        for (int i = 0; i < 12; i++) {
            town.append("thing x").append((char) ('a' + i)).append(" from").append(1000 + i).append("give 99;");
        }
        for (int i = 0; i < 10; i++) {
            town.append("post p").append((char) ('a' + i)).append(' ').append(3 * i).append(" 31 20;");
        }
        for (int i = 0; i < 20; i++) {
            town.append("sun ").append(i % 12).append(' ').append(i < 12 ? 0 : 719).append("west 99south 99;");
        }
        PlateDay x = new PlateDay();
        feed(x, town.toString());
        if (x.town(town.length()) != 42) {
            wrong++;
            System.out.println("a full town: fault at " + x.fault());
        }
        for (int p = 0; p < 8; p++) {
            StringBuilder picture = new StringBuilder();
            for (int i = 0; i < 12; i++) {
                picture.append(i < 6 ? "stands x" : "lacks x").append((char) ('a' + i)).append(';');
            }
            feed(x, picture.toString());
            if (x.picture(picture.length()) != p || x.next(p) < 0 || x.quarrel(p) < 0 || x.doubt(p, 1) < 1 || x.late(p, -1) < -1) {
                wrong++;
                System.out.println("a full picture " + p);
            }
        }
        if (x.picture(0) != -3 || x.cloud(255, 2) <= 0 || x.count(4) != 96) {
            wrong++;
            System.out.println("eight full pictures");
        }
    }
}
