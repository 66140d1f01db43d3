import java.lang.reflect.InvocationTargetException;
import java.lang.reflect.Method;
import java.lang.reflect.Modifier;
import java.util.Arrays;
import java.util.HashMap;
import java.util.Map;

/**
 * A run of calls on one new desk, told as rows such as "add(2, 0, 1, 1, 1) = -4".
 * A row may have "n x " ahead (the last answer counts), and no " = " if its answer is of no interest.
 * Beside the calls of the document there are:
 * load(text) feeds a text, tell(s, text) and draw(s, text) feed it and read it by told() and figure(),
 * show(s) tells a shelf as a text, state() all that a refused call must leave as it is,
 * most(s, brackets) and least(s, brackets) make a shelf 2147483647 and -2147483648 times these,
 * many(s, first, n) makes it the sum of n brackets of the 120 from one of them on (these three use shelf 5).
 * Each answer is compared with the model's, too.
 */
final class Script {
    /** What later calls answer is free, so no test may rest on it. */
    private static final int MOST_CALLS = 512;
    private static final Map<String, Method> METHODS = new HashMap<>();

    private static int wrong = 0;
    private static int checks = 0;
    private static int sentences = 0;

    private final String sentence;
    private final BracketDesk desk = new BracketDesk();
    private final Model model = new Model();
    private int calls = 0;

    static {
        for (Method m : BracketDesk.class.getDeclaredMethods()) {
            if (Modifier.isPublic(m.getModifiers())) {
                METHODS.put(m.getName(), m);
            }
        }
    }

    Script(String sentence) {
        this.sentence = sentence;
        sentences++;
    }

    /** A sentence of the document, and a run of calls that is as it says. */
    static void due(String sentence, String... rows) {
        new Script(sentence).rows(rows);
    }

    static boolean isFine() {
        System.out.println(sentences + " runs, " + checks + " checks, " + wrong + " wrong");
        return wrong == 0;
    }

    Script rows(String... rows) {
        for (String row : rows) {
            int equals = row.indexOf(" = ");
            String call = equals < 0 ? row : row.substring(0, equals);
            String got = repeated(call);
            if (equals >= 0) {
                check(call, got, row.substring(equals + 3));
            }
        }
        return this;
    }

    /** Looks at what a call leaves: all is as it was, but for what was told by why(). */
    Script refused(String row) {
        String before = state();
        rows(row);
        check("what " + row + " leaves", state(), before);
        return this;
    }

    void check(String what, String got, String want) {
        checks++;
        if (!got.equals(want)) {
            wrong++;
            System.out.println(sentence + ": " + what + " answered " + got + ", due is " + want);
        }
    }

    String answer(String call) {
        int open = call.indexOf('(');
        String name = call.substring(0, open);
        String inside = call.substring(open + 1, call.length() - 1);
        String[] parts = inside.isEmpty() ? new String[0] : inside.split(", ", -1);
        switch (name) {
            case "load": return load(inside);
            case "tell": return read("told", parts);
            case "draw": return read("figure", parts);
            case "show": return show(Integer.parseInt(parts[0]));
            case "state": return state();
            case "most": return greatest(parts, false);
            case "least": return greatest(parts, true);
            case "many": return many(numbers(parts));
            default: return Long.toString(ask(name, numbers(parts)));
        }
    }

    private String repeated(String call) {
        int cross = call.indexOf(" x ");
        int times = cross < 0 ? 1 : Integer.parseInt(call.substring(0, cross));
        String got = "";
        for (int i = 0; i < times; i++) {
            got = answer(cross < 0 ? call : call.substring(cross + 3));
        }
        return got;
    }

    private static int[] numbers(String[] parts) {
        int[] numbers = new int[parts.length];
        for (int i = 0; i < parts.length; i++) {
            numbers[i] = Integer.parseInt(parts[i]);
        }
        return numbers;
    }

    private long ask(String name, int... a) {
        calls++;
        if (calls == MOST_CALLS + 1) {
            check("the number of calls", Integer.toString(calls), "512 at most");
        }
        Object[] boxed = new Object[a.length];
        for (int i = 0; i < a.length; i++) {
            boxed[i] = a[i];
        }
        try {
            long got = ((Number) METHODS.get(name).invoke(desk, boxed)).longValue();
            long likewise = model.call(name, a);
            if (got != likewise) {
                check("by the model " + name + Arrays.toString(a), Long.toString(got), Long.toString(likewise));
            }
            return got;
        } catch (InvocationTargetException | IllegalAccessException e) {
            check(name, String.valueOf(e.getCause()), "an answer");
            return 0;
        }
    }

    private int askInt(String name, int... a) {
        return (int) ask(name, a);
    }

    // ---- more than one call

    private String load(String text) {
        String size = "";
        for (int i = 0; i < text.length(); i += 20) {
            int[] five = new int[5];
            for (int j = 0; j < 20; j++) {
                five[j / 4] = five[j / 4] << 8 | (i + j < text.length() ? text.charAt(i + j) : 0);
            }
            size = Long.toString(ask("feed", five));
        }
        return size;
    }

    private String read(String name, String[] parts) {
        String text = parts.length > 1 ? parts[1] : "";
        load(text);
        return Long.toString(ask(name, Integer.parseInt(parts[0]), text.length()));
    }

    private String show(int s) {
        StringBuilder b = new StringBuilder();
        int terms = askInt("terms", s);
        for (int i = 0; i < terms; i++) {
            int number = askInt("term", s, i, 0);
            b.append(number < 0 ? "" : "+").append(number);
            int brackets = askInt("term", s, i, 1);
            for (int j = 0; j < 3 * brackets; j++) {
                b.append(j % 3 == 0 ? "[" : "").append((char) ('a' + askInt("term", s, i, 10 + j)));
                b.append(j % 3 == 2 ? "]" : "");
            }
        }
        return b.toString();
    }

    private String state() {
        StringBuilder b = new StringBuilder();
        for (int s = 0; s < 6; s++) {
            b.append(askInt("terms", s)).append(' ').append(askInt("term", s, 0, 0)).append(' ')
                    .append(ask("value", s)).append("; ");
        }
        for (int what = 0; what < 6; what++) {
            b.append(askInt("count", what)).append(' ');
        }
        for (int p = 0; p < 10; p++) {
            b.append(askInt("at", p, p % 3)).append(askInt("known", p, (p + 1) % 10, (p + 2) % 10)).append(' ');
        }
        return b.append(askInt("fault", 0)).append(askInt("fault", 1)).toString();
    }

    /** 2147483648 is 8192 * 8192 * 32. */
    private String greatest(String[] parts, boolean below) {
        String s = parts[0];
        String brackets = parts.length > 1 ? parts[1] : "";
        rows("tell(" + s + ", 8192" + brackets + ")", "tell(5, " + (below ? "-8192" : "8192") + ")",
                "times(" + s + ", " + s + ", 5)");
        if (below) {
            rows("add(" + s + ", " + s + ", 32, 5, 0)");
        } else {
            rows("tell(5, -1" + brackets + ")", "add(5, " + s + ", 1, 5, 1)",
                    "add(" + s + ", " + s + ", 31, 5, 1)");
        }
        rows("clear(5)");
        return answer("term(" + s + ", 0, 0)");
    }

    private String many(int[] a) {
        int s = a[0];
        int first = a[1];
        int many = a[2];
        ask("clear", s);
        for (int i = 0; i < many; i += 50) {
            rows("tell(5, " + brackets(first + i, Math.min(50, many - i)) + ")");
            ask("add", s, s, 1, 5, 1);
        }
        ask("clear", 5);
        return answer("terms(" + s + ")");
    }

    /** The text of so many of the 120 brackets, from one of them on. */
    static String brackets(int first, int many) {
        StringBuilder text = new StringBuilder();
        int number = 0;
        for (int a = 0; a < 10; a++) {
            for (int b = a + 1; b < 10; b++) {
                for (int c = b + 1; c < 10; c++) {
                    if (number >= first && number < first + many) {
                        text.append(text.length() == 0 ? "[" : "+[").append((char) ('a' + a))
                                .append((char) ('a' + b)).append((char) ('a' + c)).append(']');
                    }
                    number++;
                }
            }
        }
        return text.toString();
    }
}
