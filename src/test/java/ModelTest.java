import java.lang.reflect.Method;
import java.util.ArrayList;
import java.util.Arrays;
import java.util.HashMap;
import java.util.List;
import java.util.Map;
import java.util.Random;

/** Runs of 512 calls, made by a seed, on the class and on the model; all answers must be alike. */
public final class ModelTest {
    private static final Map<String, Method> METHODS = new HashMap<>();
    private static final Map<String, Integer> ANSWERS = new HashMap<>();

    private final Random random;
    private final BracketDesk desk = new BracketDesk();
    private final Model model = new Model();
    private final List<String> log = new ArrayList<>();
    private final int letters;
    private int calls = 0;

    private ModelTest(long seed) {
        random = new Random(seed);
        letters = 4 + random.nextInt(7);
    }

    public static void main(String[] args) throws Exception {
        long from = args.length > 0 ? Long.parseLong(args[0]) : 0;
        long many = args.length > 1 ? Long.parseLong(args[1]) : 150;
        for (Method m : BracketDesk.class.getDeclaredMethods()) {
            if (java.lang.reflect.Modifier.isPublic(m.getModifiers())) {
                METHODS.put(m.getName(), m);
            }
        }
        for (long seed = from; seed < from + many; seed++) {
            ModelTest run = new ModelTest(seed);
            if (!run.isAlike()) {
                System.out.println("seed " + seed + " after " + run.calls + " calls:");
                int start = Math.max(0, run.log.size() - 25);
                run.log.subList(start, run.log.size()).forEach(System.out::println);
                System.exit(1);
            }
        }
        System.out.println("answers of " + many + " runs are alike; refused and rare ones: " + ANSWERS);
        List<String> due = Arrays.asList("figure -4 2", "times -4 1", "times -4 2", "times -7 4",
                "add -4 1", "add -7 4", "straight -4 1", "straight -7 4", "put -7 4", "turn -7 4", "equal -7 4",
                "factor -7 4", "isFinal 1", "told -31", "told -32", "told -33", "figure -31", "figure -34");
        for (String d : due) {
            if (args.length == 0 && !ANSWERS.containsKey(d)) {
                System.out.println("never met: " + d);
                System.exit(1);
            }
        }
    }

    private boolean isAlike() throws Exception {
        while (calls < 500) {
            if (!randomCall()) {
                return false;
            }
        }
        return true;
    }

    private boolean call(String name, int... a) throws Exception {
        calls++;
        Object[] boxed = new Object[a.length];
        for (int i = 0; i < a.length; i++) {
            boxed[i] = a[i];
        }
        long got = ((Number) METHODS.get(name).invoke(desk, boxed)).longValue();
        long want = model.call(name, a);
        log.add(name + Arrays.toString(a) + " answered " + got + ", due is " + want);
        note(name, got);
        return got == want;
    }

    private void note(String name, long got) {
        if (name.equals("isFinal") && got == 1) {
            ANSWERS.merge("isFinal 1", 1, Integer::sum);
        }
        if (got == -4 && !name.equals("feed") || got == -7) {
            if (METHODS.get(name).getReturnType() == int.class && !Arrays.asList("term", "at", "worth", "factor",
                    "place").contains(name) || name.equals("factor") && desk.why() != 0) {
                ANSWERS.merge(name + " " + got + " " + desk.why(), 1, Integer::sum);
            }
        }
        if (got <= -31 && got >= -34 && (name.equals("told") || name.equals("figure"))) {
            ANSWERS.merge(name + " " + got, 1, Integer::sum);
        }
    }

    private int below(int n) {
        return random.nextInt(n);
    }

    private int shelf() {
        return below(60) == 0 ? below(20) - 8 : below(6);
    }

    private int letter() {
        return below(60) == 0 ? below(30) - 10 : below(letters);
    }

    private boolean randomCall() throws Exception {
        switch (below(35)) {
            case 0: case 1: case 2: case 3:
                return tell("told", polynomial());
            case 4: case 5: case 6:
                return tell("figure", figure());
            case 7:
                return below(4) > 0 || call("feed", random.nextInt(), 0, 1, random.nextInt(), 3);
            case 8:
                return call("clear", shelf()) && call("copy", shelf(), shelf());
            case 9:
                return call("bracket", shelf(), letter(), letter(), letter());
            case 10:
                return call("exchange", shelf(), row(), row(), below(30) == 0 ? below(9) - 3 : 1 + below(3));
            case 11: case 12: case 13:
                return call("add", shelf(), shelf(), factor(), shelf(), factor());
            case 14: case 15: case 16:
                return call("times", shelf(), shelf(), shelf());
            case 17:
                return call("put", shelf(), shelf(), letter(), letter());
            case 18:
                return call("turn", shelf(), shelf(), letter(), letter());
            case 19:
                return call("straight", shelf(), shelf());
            case 20:
                return call("reduce", shelf(), shelf());
            case 21:
                return call("fact", letter(), letter(), letter(), below(30) == 0 ? below(9) - 3 : below(3));
            case 22: case 23:
                return call("place", letter(), near(), near(), near());
            case 24:
                return call("undo", below(10) == 0 ? below(16) - 2 : 1 + below(3));
            case 25:
                return below(2) == 0 ? call("image", below(4) - 1) : call("restore", below(4) - 1);
            case 26:
                return makeFinal();
            case 27:
                return below(2) == 0 ? extreme() : large();
            case 28:
                return wild();
            default:
                return askAll();
        }
    }

    /** Any call with any ints. */
    private boolean wild() throws Exception {
        List<String> names = new ArrayList<>(new java.util.TreeSet<>(METHODS.keySet()));
        names.remove("feed");
        String name = names.get(below(names.size()));
        int[] a = new int[METHODS.get(name).getParameterCount()];
        int[] some = { Integer.MIN_VALUE, Integer.MAX_VALUE, -1, 0, 1, 2, 3, 5, 6, 9, 10, 99, 1 << 30, random.nextInt() };
        for (int i = 0; i < a.length; i++) {
            a[i] = some[below(some.length)];
        }
        return call(name, a);
    }

    private int factor() {
        return below(40) == 0 ? below(400) - 200 : below(4) == 0 ? below(199) - 99 : below(5) - 2;
    }

    private int near() {
        return below(40) == 0 ? below(400) - 200 : below(3) == 0 ? below(199) - 99 : below(7) - 3;
    }

    private int row() {
        return below(40) == 0 ? below(3000) - 1000 : 100 * below(letters) + 10 * below(letters) + below(letters);
    }

    /** Facts by which an exchange of three or more terms may be final. */
    private boolean makeFinal() throws Exception {
        int s = below(6);
        int x = below(letters) * 100 + below(letters) * 10 + below(letters);
        int y = below(letters) * 100 + below(letters) * 10 + below(letters);
        if (!call("exchange", s, x, y, 1 + below(3))) {
            return false;
        }
        int terms = desk.terms(s);
        for (int i = 0; i < terms; i++) {
            int off = 10 + 3 * below(2);
            for (int b = 10; b < 16; b += 3) {
                if (i == 0 || b == off) {
                    int v = i == 0 ? 1 : 0;
                    if (!call("fact", desk.term(s, i, b), desk.term(s, i, b + 2), desk.term(s, i, b + 1), v)) {
                        return false;
                    }
                }
            }
        }
        return call("isFinal", s) && call("reduce", below(6), s) && call("isFinal", s);
    }

    /** Numbers at the ends of what is an int. */
    private boolean extreme() throws Exception {
        int s = below(6);
        int t = (s + 1) % 6;
        int u = (s + 2) % 6;
        // 2147483648 = 8192 * 8192 * 32
        boolean fine = tell2("told", s, "8192") && tell2("told", t, "-8192") && call("times", s, s, t)
                && call("times", t, s, s);
        fine = fine && tell2("told", t, below(2) == 0 ? "31" : "32") && call("times", s, s, t)
                && tell2("told", t, below(2) == 0 ? polynomial() : twoBrackets()) && call("times", u, s, t);
        if (below(2) == 0) {
            fine = fine && call("add", u, u, below(3) - 1, t, below(199) - 99);
        }
        return fine && call("turn", u, u, letter(), letter()) && call("put", t, u, letter(), letter())
                && call("straight", s, u) && call("factor", u, below(7)) && call("left", u) && call("equal", u, s)
                && call("steps", u) && call("rank", below(64)) && call("isFinal", u) && call("value", u);
    }

    /** Polynomials of many terms, and of terms that take many steps. */
    private boolean large() throws Exception {
        int s = below(6);
        int t = (s + 1) % 6;
        if (below(3) == 0) {
            int x = 5 + below(8);
            int y = 5 + below(8);
            return tell2("told", s, manyTerms(x, 1)) && tell2("told", t, manyTerms(y, 1)) && call("times", s, s, t)
                    && call("add", t, s, 1 + below(3), (s + 2) % 6, 1) && call("straight", t, s);
        }
        int brackets = 3 + below(2);
        boolean fine = call("clear", s);
        int rounds = below(8);
        for (int i = 0; i < rounds && fine; i++) {
            fine = tell2("told", t, manyTerms(250 / (5 * brackets + 1), brackets)) && call("add", s, s, 1, t, 1);
        }
        return fine && call("steps", s) && call("left", s) && call("equal", s, t) && call("straight", t, s)
                && call("forms", s) && call("form", s, below(300), below(12)) && call("rank", 63)
                && call("isFinal", s) && call("why");
    }

    private String manyTerms(int terms, int brackets) {
        StringBuilder b = new StringBuilder();
        for (int i = 0; i < terms; i++) {
            b.append(below(2) == 0 ? '+' : '-');
            String letters = shuffled() + shuffled();
            for (int j = 0; j < brackets; j++) {
                b.append('[').append(letters, 3 * j, 3 * j + 3).append(']');
            }
        }
        return b.toString();
    }

    private String shuffled() {
        List<Character> all = new ArrayList<>();
        for (int i = 0; i < 10; i++) {
            all.add((char) ('a' + i));
        }
        java.util.Collections.shuffle(all, random);
        StringBuilder b = new StringBuilder();
        for (char c : all) {
            b.append(c);
        }
        return b.toString();
    }

    private String twoBrackets() {
        String l = shuffled();
        return "[" + l.substring(0, 3) + "][" + l.substring(3, 6) + "]-[" + l.charAt(0) + l.substring(4, 6) + "]["
                + l.charAt(3) + l.substring(1, 3) + "]";
    }

    private boolean askAll() throws Exception {
        int s = shelf();
        int terms = s < 0 || s > 5 ? 1 : desk.terms(s);
        switch (below(13)) {
            case 0:
                return call("why") && call("fault", below(4) - 1) && call("fault", 1) && call("fault", 0);
            case 1:
                return call("terms", s) && call("steps", s) && call("why") && call("left", s) && call("why");
            case 2: case 3:
                for (int i = 0; i < 8; i++) {
                    if (!call("term", s, below(terms + 1) - below(12) / 11, below(24) - 1)) {
                        return false;
                    }
                }
                return call("degree", s, letter());
            case 4:
                return call("equal", s, shelf()) && call("why");
            case 5:
                return call("forms", s) && call("form", s, below(20) - 1, below(14) - 1)
                        && call("form", s, below(3), below(9));
            case 6:
                return call("rank", below(66) - 1) && call("why");
            case 7:
                for (int i = 0; i < 7; i++) {
                    if (!call("factor", s, i)) {
                        return false;
                    }
                }
                return call("factor", s, 7) && call("why");
            case 8:
                return call("isFinal", s) && call("why");
            case 9:
                return call("known", letter(), letter(), letter()) && call("at", letter(), below(5) - 1);
            case 10:
                return call("worth", letter(), letter(), letter()) && call("value", s);
            default:
                for (int i = -1; i < 7; i++) {
                    if (!call("count", i)) {
                        return false;
                    }
                }
                return true;
        }
    }

    private boolean tell(String name, String text) throws Exception {
        return tell2(name, shelf(), text) && (below(8) > 0 || call("why")) && (below(8) > 0 || call("fault", 1));
    }

    private boolean tell2(String name, int s, String text) throws Exception {
        if (desk.count(3) > 0 && !call("told", 0, 0)) {
            return false;
        }
        for (int i = 0; i < text.length(); i += 20) {
            int[] five = new int[5];
            for (int j = 0; j < 20; j++) {
                int b = i + j < text.length() ? text.charAt(i + j) : below(256);
                five[j / 4] = five[j / 4] << 8 | b;
            }
            if (!call("feed", five)) {
                return false;
            }
        }
        int n = below(40) == 0 ? below(340) - 20 : text.length();
        return call(name, s, n) && call("count", 3);
    }

    private String polynomial() {
        StringBuilder b = new StringBuilder();
        int terms = below(8) == 0 ? 30 + below(20) : below(6);
        int brackets = below(5);
        for (int i = 0; i < terms && b.length() < 280; i++) {
            if (i > 0 || below(3) == 0) {
                b.append(below(2) == 0 ? '+' : '-');
            }
            int many = below(5) == 0 ? below(5) : brackets;
            if (many == 0 || below(3) == 0) {
                b.append(below(3) == 0 ? below(10000) : below(12));
            }
            for (int j = 0; j < many && b.length() < 280; j++) {
                b.append('[').append(byteLetter()).append(byteLetter()).append(byteLetter()).append(']');
            }
        }
        return spoiled(b, "[]+-0123abcjk^( ");
    }

    private char byteLetter() {
        return (char) ('a' + below(letters));
    }

    private String figure() {
        StringBuilder b = new StringBuilder();
        int deep = below(3);
        for (int i = 0; i < 3; i++) {
            point(b, below(2) == 0 ? deep : below(3));
        }
        return spoiled(b, "()^abcdjk[ ");
    }

    private void point(StringBuilder b, int deep) {
        if (deep == 0) {
            b.append(byteLetter());
            return;
        }
        b.append('(');
        for (int i = 0; i < 4; i++) {
            if (i == 2) {
                b.append('^');
            }
            point(b, below(3) == 0 ? deep - 1 : 0);
        }
        b.append(')');
    }

    private String spoiled(StringBuilder b, String signs) {
        int many = below(6) == 0 ? 1 + below(2) : 0;
        for (int i = 0; i < many; i++) {
            int place = below(b.length() + 1);
            char sign = signs.charAt(below(signs.length()));
            if (place < b.length() && below(3) > 0) {
                b.setCharAt(place, sign);
            } else if (b.length() < 295) {
                b.insert(place, sign);
                if (below(3) == 0) {
                    b.insert(place, "[abc][abc]12345((");
                }
            }
        }
        return b.length() > 300 ? b.substring(0, 300) : b.toString();
    }
}
