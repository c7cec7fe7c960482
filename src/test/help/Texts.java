import java.util.ArrayList;
import java.util.List;

/** Texts of towns and of pictures drawn by lot, right ones and wrong ones, as rows of tokens. */
final class Texts {
    private final Chance chance;
    final List<String> things = new ArrayList<>();
    final List<String> trees = new ArrayList<>();
    final List<String> posts = new ArrayList<>();
    final List<String> clocks = new ArrayList<>();
    private final List<String> names = new ArrayList<>();
    private int day;

    Texts(Chance chance) {
        this.chance = chance;
    }

    /** A text so many times, with a, b, c for each # and 0, 1, 2 for each %. */
    static String many(String text, int n) {
        StringBuilder all = new StringBuilder();
        for (int i = 0; i < n; i++) {
            all.append(text.replace("#", "" + (char) ('a' + i)).replace("%", "" + i));
        }
        return all.toString();
    }

    private String newName() {
        StringBuilder name = new StringBuilder();
        do {
            name.setLength(0);
            int length = chance.oneIn(4) ? chance.from(1, 8) : chance.from(1, 2);
            for (int i = 0; i < length; i++) {
                name.append((char) ('a' + chance.below(26)));
            }
        } while (names.contains(name.toString()));
        names.add(name.toString());
        return name.toString();
    }

    private void give(List<String> out) {
        if (!chance.oneIn(3)) {
            out.add("give");
            out.add("" + (chance.oneIn(4) ? chance.of(0, 1, 98, 99) : chance.below(40)));
        }
    }

    private static void add(List<String> out, Object... all) {
        for (Object one : all) {
            out.add("" + one);
        }
    }

    /** The tokens of a town; the names are kept for its pictures. */
    List<String> town() {
        List<String> out = new ArrayList<>();
        things.clear();
        trees.clear();
        posts.clear();
        clocks.clear();
        names.clear();
        day = chance.oneIn(4) ? chance.of(0, 20, 3480, 3590) : chance.below(3400);
        int parts = chance.oneIn(8) ? 0 : chance.from(4, 24);
        int suns = chance.below(4);
        for (int i = 0; i < suns; i++) {
            sun(out, chance.below(12));
        }
        for (int i = 0; i < parts; i++) {
            part(out, chance.below(10));
        }
        return out;
    }

    private void part(List<String> out, int what) {
        if (what < 4 && things.size() < 12) {
            things.add(newName());
            int from = Math.min(3599, day + chance.below(120));
            add(out, "thing", names.get(names.size() - 1), "from", from);
            give(out);
            if (chance.oneIn(2)) {
                add(out, "till", Math.min(3599, from + chance.below(chance.oneIn(3) ? 10 : 400)));
                give(out);
            }
            out.add(";");
        } else if (what < 6 && trees.size() < 6) {
            int leaf = chance.below(360);
            trees.add(newName());
            add(out, "tree", names.get(names.size() - 1), "leaf", leaf, "bare", (leaf + chance.from(1, 359)) % 360, ";");
        } else if (what < 9 && posts.size() < 10) {
            posts.add(newName());
            int wide = chance.oneIn(5) ? 32 : 10;
            add(out, "post", names.get(names.size() - 1), chance.below(wide), chance.below(wide), chance.from(1, 20), ";");
        } else if (what == 9 && clocks.size() < 4) {
            clocks.add(newName());
            add(out, "clock", names.get(names.size() - 1), "slow", chance.below(100), "fast", chance.below(100), ";");
        }
    }

    private void sun(List<String> out, int month) {
        int minute = chance.below(300);
        int rows = chance.from(1, 4);
        List<String> all = new ArrayList<>();
        for (int i = 0; i < rows && minute < 720; i++) {
            add(all, "sun", month, minute, chance.of(List.of("east", "west")), chance.below(chance.oneIn(4) ? 100 : 20));
            add(all, chance.of(List.of("north", "south")), chance.below(chance.oneIn(4) ? 100 : 20), ";");
            minute += chance.from(1, 260);
        }
        out.addAll(all);
    }

    /** The tokens of some signs. */
    List<String> signs(int most) {
        List<String> out = new ArrayList<>();
        int count = chance.from(1, most);
        for (int i = 0; i < count; i++) {
            sign(out, chance.below(14));
        }
        if (out.isEmpty()) {
            add(out, "week", chance.below(7), ";");
        }
        return out;
    }

    private void sign(List<String> out, int what) {
        if (what < 5 && !things.isEmpty()) {
            add(out, chance.of(List.of("stands", "lacks")), chance.of(things), ";");
        } else if (what == 5 && !trees.isEmpty()) {
            add(out, chance.of(List.of("leaf", "bare")), chance.of(trees), ";");
        } else if (what < 8 && !posts.isEmpty()) {
            add(out, "shadow", chance.of(posts), chance.below(chance.oneIn(4) ? 32 : 16), chance.below(chance.oneIn(4) ? 32 : 16));
            if (!chance.oneIn(4)) {
                add(out, "give", chance.oneIn(8) ? 99 : chance.below(16));
            }
            out.add(";");
        } else if (what == 8 && !clocks.isEmpty()) {
            add(out, "clock", chance.of(clocks), chance.oneIn(4) ? chance.of(0, 5, 714, 719) : chance.below(720), ";");
        } else if (what == 9) {
            add(out, "week", chance.below(7), ";");
        } else if (what == 10) {
            add(out, "year", Math.min(9, day / 360 + chance.below(2)), ";");
        } else if (what > 10 && posts.size() > 1) {
            int one = chance.below(posts.size());
            int other = (one + chance.from(1, posts.size() - 1)) % posts.size();
            add(out, chance.of(List.of("before", "left")), posts.get(one), posts.get(other), ";");
        }
    }

    /** Does something to the tokens that mostly makes them wrong. */
    void spoil(List<String> tokens) {
        List<String> strange = new ArrayList<>(List.of(";", "0", "00", "0001", "12345", "9999", "3600", "720", "360", "100", "32", "31",
            "21", "20", "12", "7", "6", "give", "till", "thing", "sun", "stands", "left", "east", "abcdefgh", "abcdefghi", "A", "\t",
            "?", "\u00e9", "\u0000", "-"));
        strange.addAll(names);
        int at = chance.below(tokens.size() + 1);
        String one = chance.of(strange);
        switch (chance.below(4)) {
            case 0 -> tokens.add(at, one);
            case 1 -> {
                if (at < tokens.size()) {
                    tokens.remove(at);
                }
            }
            case 2 -> {
                if (at < tokens.size()) {
                    tokens.set(at, one);
                }
            }
            default -> tokens.subList(at, tokens.size()).clear();
        }
    }

    /** Joins tokens with blanks, sometimes just those that must be. */
    String join(List<String> tokens) {
        boolean tight = chance.oneIn(2);
        StringBuilder text = new StringBuilder();
        for (String token : tokens) {
            boolean must = text.length() > 0 && kind(text.charAt(text.length() - 1)) == kind(token.charAt(0))
                && kind(token.charAt(0)) > 0;
            if (must || !tight) {
                text.append(chance.of(List.of(" ", " ", " ", "\n", "  ", " \n ")));
            }
            text.append(token);
        }
        if (chance.oneIn(4)) {
            text.append(" \n");
        }
        return text.toString();
    }

    private static int kind(char sign) {
        return Character.isLetter(sign) ? 1 : Character.isDigit(sign) ? 2 : 0;
    }
}
