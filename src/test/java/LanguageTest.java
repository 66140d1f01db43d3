import java.lang.reflect.Constructor;
import java.lang.reflect.Field;
import java.lang.reflect.Method;
import java.lang.reflect.Modifier;
import java.nio.file.Files;
import java.nio.file.Path;
import java.util.ArrayList;
import java.util.List;
import java.util.Set;
import java.util.TreeSet;
import java.util.regex.Matcher;
import java.util.regex.Pattern;

/** Those rules of ../shared/LANGUAGE.md that can be looked at from outside: the face, words, lengths, objects made. */
public final class LanguageTest {
    private static final String FACE = "add at bracket clear copy count degree equal exchange fact factor fault feed "
            + "figure form forms image isFinal known left place put rank reduce restore steps straight term terms "
            + "times told turn undo value why worth";
    private static int wrong = 0;

    private static void check(boolean fine, String what) {
        if (!fine) {
            wrong++;
            System.out.println(what);
        }
    }

    public static void main(String[] args) throws Exception {
        face();
        List<Class<?>> all = new ArrayList<>(List.of(BracketDesk.class.getDeclaredClasses()));
        all.add(BracketDesk.class);
        check(all.size() <= 12, "rule 11: " + all.size() + " classes");
        for (Class<?> c : all) {
            shape(c);
        }
        source(Files.readString(Path.of("src/main/java/BracketDesk.java")));
        room();
        System.out.println(wrong == 0 ? "the rules are kept" : wrong + " faults");
        if (wrong != 0) {
            System.exit(1);
        }
    }

    private static void face() {
        Set<String> open = new TreeSet<>();
        for (Method m : BracketDesk.class.getDeclaredMethods()) {
            if (Modifier.isPublic(m.getModifiers())) {
                open.add(m.getName());
                check(m.getReturnType() == (m.getName().equals("value") ? long.class : int.class), m + " answers what?");
            } else {
                check(Modifier.isPrivate(m.getModifiers()), "rule 1: " + m);
            }
        }
        check(String.join(" ", open).equals(FACE), "rule 1: the face is " + open);
        for (Field f : BracketDesk.class.getDeclaredFields()) {
            check(Modifier.isPrivate(f.getModifiers()) || f.getName().equals("NONE"), "rule 1: " + f);
        }
        Constructor<?>[] made = BracketDesk.class.getDeclaredConstructors();
        check(made.length == 1 && made[0].getParameterCount() == 0 && Modifier.isPublic(made[0].getModifiers()),
                "rule 1: the constructor");
        check(Modifier.isFinal(BracketDesk.class.getModifiers()), "rule 1: final");
    }

    private static void shape(Class<?> c) {
        int fields = 0;
        for (Field f : c.getDeclaredFields()) {
            fields += Modifier.isStatic(f.getModifiers()) ? 0 : 1;
            check(!Modifier.isStatic(f.getModifiers()) || Modifier.isFinal(f.getModifiers()), "rule 5: " + f);
        }
        check(fields <= 20, "rule 11: fields of " + c);
        check(c == BracketDesk.class || Modifier.isStatic(c.getModifiers()), "rule 2: " + c);
        Set<String> open = Set.of(FACE.split(" "));
        for (Method m : c.getDeclaredMethods()) {
            check(m.getParameterCount() <= 7, "rule 11: " + m);
            check(!Modifier.isPrivate(m.getModifiers()) || !open.contains(m.getName()), "rule 1: " + m);
        }
    }

    private static void source(String text) {
        String code = text.replaceAll("(?s)/\\*.*?\\*/", "").replaceAll("//[^\n]*", "");
        String[] banned = { "\\bthrow\\b", "\\bthrows\\b", "\\btry\\b", "\\bcatch\\b", "\\bsynchronized\\b",
            "\\bassert\\b", "->", "::", "Exact\\b", "\\bstatic\\s*\\{", "\\bpackage\\b", "MIN_VALUE", "MAX_VALUE",
            "System\\.(?!arraycopy)", "\"" };
        for (String b : banned) {
            check(!Pattern.compile(b).matcher(code).find(), "not in this Java: " + b);
        }
        Matcher imports = Pattern.compile("import ([^;]*);").matcher(code);
        while (imports.find()) {
            check(imports.group(1).equals("java.util.Arrays"), "rule 4: " + imports.group(1));
        }
        Matcher library = Pattern.compile("\\b(Arrays|Math|Integer|Long)\\.(\\w+)").matcher(code);
        while (library.find()) {
            check(Set.of("fill", "abs", "min", "max", "floorMod", "bitCount").contains(library.group(2)),
                    "rule 4: " + library.group());
        }
        String[] lines = text.split("\n");
        int start = 0;
        for (int i = 0; i < lines.length; i++) {
            check(lines[i].length() <= 120, "a long line: " + (i + 1));
            if (lines[i].matches("    (    )?\\S.*\\) \\{")) {
                start = i;
            }
            if (lines[i].matches("    (    )?\\}")) {
                check(i - start <= 60 || lines[i].startsWith("    }"), "rule 11: the method at line " + (start + 1));
            }
        }
    }

    /** A call makes nothing: all that is needed is made by the constructor. */
    private static void room() {
        com.sun.management.ThreadMXBean bean =
                (com.sun.management.ThreadMXBean) java.lang.management.ManagementFactory.getThreadMXBean();
        if (!bean.isThreadAllocatedMemorySupported()) {
            return;
        }
        long most = 0;
        for (int round = 0; round < 3; round++) {
            BracketDesk d = new BracketDesk();
            long before = bean.getCurrentThreadAllocatedBytes();
            for (int i = 0; i < 18; i++) {
                calls(d);
            }
            most = bean.getCurrentThreadAllocatedBytes() - before;
        }
        check(most < 2000, "rule 12: 500 calls made " + most + " bytes");
    }

    private static void calls(BracketDesk d) {
        d.feed(677470814, 1667508581, 1711276032, 0, 0);
        d.figure(0, 9);
        d.feed(1533108837, 1566269795, 1683816448, 0, 0);
        d.told(1, 10);
        d.exchange(2, 14, 23, 2);
        d.bracket(3, 0, 1, 2);
        d.times(4, 1, 0);
        d.add(5, 4, 3, 0, 2);
        d.put(5, 5, 1, 7);
        d.turn(5, 5, 1, 2);
        d.straight(3, 4);
        d.reduce(3, 3);
        d.fact(0, 1, 2, 1);
        d.place(0, 1, 2, 3);
        d.rank(63);
        d.factor(0, 1);
        d.factor(2, 1);
        d.forms(4);
        d.form(4, 3, 3);
        d.isFinal(2);
        d.equal(3, 4);
        d.value(3);
        d.count(5);
        d.image(0);
        d.restore(0);
        d.clear(5);
        d.undo(1);
        d.steps(4);
    }
}
