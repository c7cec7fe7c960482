import java.io.IOException;
import java.lang.management.ManagementFactory;
import java.lang.reflect.Constructor;
import java.lang.reflect.Field;
import java.lang.reflect.Member;
import java.lang.reflect.Method;
import java.lang.reflect.Modifier;
import java.nio.file.Files;
import java.nio.file.Path;
import java.util.ArrayList;
import java.util.Arrays;
import java.util.List;
import java.util.Set;
import java.util.TreeSet;
import java.util.regex.Matcher;
import java.util.regex.Pattern;

/** The face of the class, and those rules of LANGUAGE.md that can be seen in the source or counted. */
public final class RulesTest {
    private static final List<String> FACE = List.of(
        "int feed(int,int,int,int,int)", "int town(int)", "int picture(int)", "int more(int,int)", "int fault()", "int told(int)",
        "int sign(int,int,int)", "int lets(int,int,int,int)", "int shadow(int,int,int,int)", "int all(int)", "int days(int,int)",
        "int runs(int,int,int)", "int judge(int,int,int)", "int quarrel(int)", "int doubt(int,int)", "int stood(int,boolean,int)",
        "int late(int,int)", "long couples(int,int,int,int,int)", "boolean weight(int,int)", "long likely(int,int)", "long look(int,int,int)",
        "int next(int)", "int cloud(int,int)", "int image()", "boolean back(int)", "int count(int)");
    private static int wrong;

    public static void main(String[] args) throws IOException {
        face();
        classes();
        source();
        room();
        System.out.println("RulesTest: " + (wrong == 0 ? "as the rules want it" : wrong + " wrong"));
        if (wrong > 0) {
            System.exit(1);
        }
    }

    private static void must(String what, boolean holds) {
        if (!holds) {
            wrong++;
            System.out.println("RulesTest: " + what);
        }
    }

    private static boolean isHidden(Member member) {
        return Modifier.isPrivate(member.getModifiers()) || member.isSynthetic();
    }

    private static void face() {
        Class<?> c = PlateDay.class;
        must("the class is public and final", Modifier.isPublic(c.getModifiers()) && Modifier.isFinal(c.getModifiers()));
        Set<String> open = new TreeSet<>();
        Set<String> names = new TreeSet<>();
        for (Method m : c.getDeclaredMethods()) {
            if (!isHidden(m)) {
                must(m + " is public and no static one", Modifier.isPublic(m.getModifiers()) && !Modifier.isStatic(m.getModifiers()));
                List<String> kinds = Arrays.stream(m.getParameterTypes()).map(Class::getName).toList();
                open.add(m.getReturnType().getName() + " " + m.getName() + "(" + String.join(",", kinds) + ")");
                names.add(m.getName());
            }
        }
        must("the methods are those of the face: " + open, open.equals(new TreeSet<>(FACE)));
        for (Method m : c.getDeclaredMethods()) {
            must("no private method is named " + m.getName(), !isHidden(m) || !names.contains(m.getName()));
        }
        for (Constructor<?> made : c.getDeclaredConstructors()) {
            must("one constructor, public, without arguments", Modifier.isPublic(made.getModifiers()) && made.getParameterCount() == 0);
        }
        for (Field f : c.getDeclaredFields()) {
            must("no open field but NONE: " + f, isHidden(f) || f.getName().equals("NONE") && Modifier.isPublic(f.getModifiers()));
        }
        must("NONE", PlateDay.NONE == -1);
    }

    private static void classes() {
        List<Class<?>> all = new ArrayList<>(List.of(PlateDay.class.getDeclaredClasses()));
        all.add(PlateDay.class);
        must("some twelve classes: " + all.size(), all.size() <= 12);
        for (Class<?> c : all) {
            int fields = 0;
            for (Field f : c.getDeclaredFields()) {
                boolean isStatic = Modifier.isStatic(f.getModifiers());
                must("static fields are final: " + f, !isStatic || Modifier.isFinal(f.getModifiers()));
                fields += isStatic ? 0 : 1;
            }
            must("some twenty fields: " + c, fields <= 20);
            must("static inside: " + c, c == PlateDay.class || Modifier.isStatic(c.getModifiers()));
            for (Method m : c.getDeclaredMethods()) {
                must("seven parameters: " + m, m.getParameterCount() <= 7);
            }
        }
    }

    private static void source() throws IOException {
        String text = Files.readString(Path.of("src/main/java/PlateDay.java"));
        String code = text.replaceAll("/\\*(?s:.*?)\\*/", "").replaceAll("//[^\n]*", "");
        String[] banned = {"\\bthrow\\b", "\\bthrows\\b", "\\btry\\b", "\\bcatch\\b", "\\bsynchronized\\b", "\\bassert\\b", "->", "::", "\\bpackage\\b",
            "\\bdouble\\b", "\\bfloat\\b", "\\bthis\\s*\\)", "\"\\s*\\+", "\\+\\s*\"", "hashCode", "toString", "\\bNaN\\b", "Exact\\b",
            "System\\.(?!arraycopy)", "static\\s*\\{", "\\bThread\\b", "\\bprotected\\b"};
        for (String one : banned) {
            Matcher m = Pattern.compile(one).matcher(code);
            must("the source has " + one, !m.find());
        }
        Matcher imports = Pattern.compile("import ([\\w.*]+);").matcher(code);
        while (imports.find()) {
            must("import " + imports.group(1), Set.of("java.util.Arrays", "java.util.List", "java.util.ArrayList").contains(imports.group(1)));
        }
        must("signs 1 to 127", text.chars().allMatch(sign -> sign > 0 && sign < 128));
        methodLengths(code.replaceAll("'(\\\\.|[^'\\\\])'|\"(\\\\.|[^\"\\\\])*\"", "0"));
    }

    /** A method begins with a head that ends in ") {" right inside a class, and ends where its braces are closed. */
    private static void methodLengths(String code) {
        Matcher heads = Pattern.compile("\\)\\s*\\{").matcher(code);
        int end = 0;
        while (heads.find()) {
            if (heads.start() < end) {
                continue;
            }
            end = heads.end();
            for (int open = 1; open > 0 && end < code.length(); end++) {
                open += code.charAt(end) == '{' ? 1 : code.charAt(end) == '}' ? -1 : 0;
            }
            long lines = code.substring(heads.start(), end).chars().filter(sign -> sign == '\n').count();
            String before = code.substring(0, heads.start());
            must("sixty lines: " + before.substring(before.lastIndexOf('\n') + 1), lines <= 60);
        }
    }

    /** All calls of one run live in one room; 4 bytes an element are the least that the room can be. */
    private static void room() {
        com.sun.management.ThreadMXBean threads = (com.sun.management.ThreadMXBean) ManagementFactory.getThreadMXBean();
        calls(new PlateDay());
        long before = threads.getCurrentThreadAllocatedBytes();
        PlateDay x = new PlateDay();
        long sum = calls(x);
        long made = threads.getCurrentThreadAllocatedBytes() - before;
        must("an object and some thirty calls take " + made + " bytes; " + sum, made < 4L * 7_300_000 / 16);
    }

    private static long calls(PlateDay x) {
        // thing m from 9 give 5;post p 1 2 3;post q 4 5 6; and stands m;left p q;
        int made = x.feed(0x7468696e, 0x67206d20, 0x66726f6d, 0x20392067, 0x69766520) + x.feed(0x353b706f, 0x73742070, 0x20312032, 0x20333b70,
            0x6f737420) + x.feed(0x71203420, 0x3520363b, 0, 0, 0);
        must("the town is taken", x.town(48) == 3);
        x.feed(0x7374616e, 0x6473206d, 0x3b6c6566, 0x74207020, 0x713b2020);
        must("the picture is taken", x.picture(20) == 0);
        long sum = made + x.told(100) + x.sign(0, 0, 0) + x.lets(0, 0, 0, 0) + x.shadow(0, 0, 0, 0) + x.all(0) + x.days(0, 7) + x.runs(0, 7, 0);
        sum += x.judge(0, 7, 7) + x.quarrel(0) + x.doubt(0, 0) + x.stood(0, true, 7) + x.late(0, -1) + x.couples(0, 0, 0, 7, 0);
        sum += x.likely(0, 2) + x.look(0, 0, 0) + x.next(0) + x.cloud(1, 2) + x.image() + x.count(4) + x.fault();
        return sum + (x.weight(0, 7) && x.back(0) ? 1 : 0);
    }
}
