import java.math.BigInteger;
import java.util.ArrayDeque;
import java.util.ArrayList;
import java.util.Arrays;
import java.util.Collections;
import java.util.Deque;
import java.util.HashMap;
import java.util.List;
import java.util.Map;
import java.util.TreeMap;

/**
 * The document once more, told as plainly as the Java library lets it: a term's brackets are a text of
 * sorted letters ("abcadf"), a polynomial is a map of these. It is slow and shares nothing with the class.
 */
final class Model {
    static final class Refused extends RuntimeException {
        private static final long serialVersionUID = 1L;
        final int why;

        Refused(int why) {
            super(null, null, false, false);
            this.why = why;
        }
    }

    static final class Poly extends TreeMap<String, BigInteger> {
        private static final long serialVersionUID = 1L;

        Poly() {
        }

        Poly(Poly p) {
            super(p);
        }

        void lay(String key, BigInteger number) {
            if (key.length() > 12) {
                throw new Refused(2);
            }
            if (number.signum() == 0) {
                return;
            }
            mustBeInt(number);
            if (!containsKey(key)) {
                if (size() == 80) {
                    throw new Refused(1);
                }
                put(key, number);
                return;
            }
            BigInteger sum = get(key).add(number);
            mustBeInt(sum);
            if (sum.signum() == 0) {
                remove(key);
            } else {
                put(key, sum);
            }
        }

        private static void mustBeInt(BigInteger n) {
            if (n.bitLength() > 31) {
                throw new Refused(4);
            }
        }
    }

    static final class State {
        Poly[] shelves = new Poly[6];
        Map<String, Integer> facts = new HashMap<>();
        int[][] places = new int[10][3];

        State() {
            for (int i = 0; i < 6; i++) {
                shelves[i] = new Poly();
            }
        }

        State copied() {
            State s = new State();
            for (int i = 0; i < 6; i++) {
                s.shelves[i] = new Poly(shelves[i]);
            }
            s.facts = new HashMap<>(facts);
            for (int i = 0; i < 10; i++) {
                s.places[i] = places[i].clone();
            }
            return s;
        }
    }

    private State now = new State();
    private final Deque<State> past = new ArrayDeque<>();
    private final State[] images = new State[2];
    private final List<Integer> tape = new ArrayList<>();
    private int fault = 0;
    private int faultPlace = -1;
    private int why = 0;
    int stepsTaken;

    // ---- the calls

    long call(String name, int[] a) {
        boolean tells = Arrays.asList("told", "figure", "add", "times", "put", "turn", "straight", "steps", "left",
                "equal", "rank", "factor", "isFinal").contains(name);
        int before = why;
        try {
            long answer = dispatch(name, a);
            why = tells ? 0 : before;
            return answer;
        } catch (Refused r) {
            why = r.why;
            return r.why == 4 ? -7 : -4;
        }
    }

    private long dispatch(String name, int[] a) {
        switch (name) {
            case "feed": return feed(a);
            case "told": return text(a[0], a[1], false);
            case "figure": return text(a[0], a[1], true);
            case "fault": return a[0] == 0 ? fault : a[0] == 1 ? faultPlace : -1;
            case "why": return why;
            case "clear": return clear(a[0]);
            case "copy": return bad(6, a[0], a[1]) ? -2 : keep(a[0], new Poly(now.shelves[a[1]]));
            case "bracket": return bracket(a);
            case "exchange": return exchange(a);
            case "add": return add(a);
            case "times": return bad(6, a) ? -2 : keep(a[0], product(now.shelves[a[1]], now.shelves[a[2]]));
            case "put": return rename(a, false);
            case "turn": return rename(a, true);
            case "straight": return bad(6, a) ? -2 : keep(a[0], straight(now.shelves[a[1]]));
            case "reduce": return bad(6, a) ? -2 : keep(a[0], reduced(now.shelves[a[1]]));
            case "fact": return fact(a);
            case "place": return place(a);
            case "terms": return bad(6, a) ? -2 : now.shelves[a[0]].size();
            case "term": return term(a[0], a[1], a[2]);
            case "degree": return degree(a[0], a[1]);
            case "steps": return bad(6, a) ? -2 : steps(now.shelves[a[0]]);
            case "left": return bad(6, a) ? -2 : straight(now.shelves[a[0]]).size();
            case "equal": return equal(a);
            case "forms": return forms(a[0]);
            case "form": return form(a[0], a[1], a[2]);
            case "rank": return rank(a[0]);
            case "factor": return factor(a[0], a[1]);
            case "isFinal": return isFinal(a[0]);
            case "known": return known(a);
            case "at": return bad(10, a[0]) || bad(3, a[1]) ? -100 : now.places[a[0]][a[1]];
            case "worth": return bad(10, a) ? Integer.MIN_VALUE : worth(a[0], a[1], a[2]);
            case "value": return value(a[0]);
            case "undo": return undo(a[0]);
            case "image": return image(a[0]);
            case "restore": return restore(a[0]);
            case "count": return count(a[0]);
            default: throw new IllegalArgumentException(name);
        }
    }

    private static boolean bad(int limit, int... numbers) {
        for (int n : numbers) {
            if (n < 0 || n >= limit) {
                return true;
            }
        }
        return false;
    }

    private void save() {
        past.addLast(now.copied());
        if (past.size() > 10) {
            past.removeFirst();
        }
    }

    private int keep(int s, Poly p) {
        save();
        now.shelves[s] = p;
        return p.size();
    }

    // ---- brackets, terms, polynomials

    private static final BigInteger ONE = BigInteger.ONE;

    /** Sorts letters by changing neighbours; answers the sign, 0 if two are one. */
    private static int sortRow(char[] row) {
        int sign = 1;
        for (int i = 0; i < row.length; i++) {
            for (int j = 0; j + 1 < row.length; j++) {
                if (row[j] == row[j + 1]) {
                    return 0;
                }
                if (row[j] > row[j + 1]) {
                    char c = row[j];
                    row[j] = row[j + 1];
                    row[j + 1] = c;
                    sign = -sign;
                }
            }
        }
        return sign;
    }

    private static List<String> split(String key) {
        List<String> list = new ArrayList<>();
        for (int i = 0; i < key.length(); i += 3) {
            list.add(key.substring(i, i + 3));
        }
        return list;
    }

    private static String join(List<String> brackets) {
        List<String> list = new ArrayList<>(brackets);
        Collections.sort(list);
        return String.join("", list);
    }

    /** Puts a number times rows of letters (each maybe not rising) to a polynomial. */
    private static void layRows(Poly p, BigInteger number, List<String> rows) {
        int sign = 1;
        List<String> brackets = new ArrayList<>();
        for (String row : rows) {
            char[] letters = row.toCharArray();
            sign *= sortRow(letters);
            brackets.add(new String(letters));
        }
        if (sign != 0) {
            p.lay(join(brackets), number.multiply(BigInteger.valueOf(sign)));
        }
    }

    private static Poly product(Poly a, Poly b) {
        Poly result = new Poly();
        for (Map.Entry<String, BigInteger> x : a.entrySet()) {
            for (Map.Entry<String, BigInteger> y : b.entrySet()) {
                List<String> all = split(x.getKey());
                all.addAll(split(y.getKey()));
                result.lay(join(all), x.getValue().multiply(y.getValue()));
            }
        }
        return result;
    }

    private static void laySum(Poly p, Poly more, long times) {
        for (Map.Entry<String, BigInteger> x : more.entrySet()) {
            p.lay(x.getKey(), x.getValue().multiply(BigInteger.valueOf(times)));
        }
    }

    /** The break as { which bracket, k }, or null. */
    private static int[] breakOf(String key) {
        List<String> b = split(key);
        for (int i = 0; i + 1 < b.size(); i++) {
            for (int k = 1; k <= 3; k++) {
                if (b.get(i).charAt(k - 1) > b.get(i + 1).charAt(k - 1)) {
                    return new int[] { i, k };
                }
            }
        }
        return null;
    }

    /** Rising rows of so many of the places 0 to 3, the first rows ahead. */
    private static List<List<Integer>> ways(int many, int from) {
        List<List<Integer>> result = new ArrayList<>();
        if (many == 0) {
            result.add(new ArrayList<>());
            return result;
        }
        for (int i = from; i < 4; i++) {
            for (List<Integer> rest : ways(many - 1, i + 1)) {
                List<Integer> row = new ArrayList<>();
                row.add(i);
                row.addAll(rest);
                result.add(row);
            }
        }
        return result;
    }

    private static void layExchange(Poly p, String x, String y, int k, List<String> others, BigInteger number) {
        String four = x.substring(k - 1) + y.substring(0, k);
        for (List<Integer> way : ways(4 - k, 0)) {
            StringBuilder first = new StringBuilder(x.substring(0, k - 1));
            StringBuilder second = new StringBuilder();
            StringBuilder order = new StringBuilder();
            for (int i : way) {
                first.append(four.charAt(i));
                order.append(i);
            }
            for (int i = 0; i < 4; i++) {
                if (!way.contains(i)) {
                    second.append(four.charAt(i));
                    order.append(i);
                }
            }
            second.append(y.substring(k));
            int sign = sortRow(order.toString().toCharArray());
            List<String> rows = new ArrayList<>(others);
            rows.add(first.toString());
            rows.add(second.toString());
            layRows(p, number.multiply(BigInteger.valueOf(sign)), rows);
        }
    }

    private Poly straight(Poly from) {
        Poly p = new Poly(from);
        stepsTaken = 0;
        while (true) {
            String last = null;
            for (String key : p.keySet()) {
                if (breakOf(key) != null) {
                    last = key;
                }
            }
            if (last == null) {
                return p;
            }
            if (stepsTaken == 900) {
                throw new Refused(3);
            }
            stepsTaken++;
            int[] b = breakOf(last);
            List<String> others = split(last);
            String x = others.remove(b[0]);
            String y = others.remove(b[0]);
            layExchange(p, x, y, b[1], others, p.get(last).negate());
        }
    }

    private int steps(Poly p) {
        straight(p);
        return stepsTaken;
    }

    // ---- texts

    private int feed(int[] a) {
        if (tape.size() + 20 > 300) {
            return -4;
        }
        for (int word : a) {
            for (int i = 3; i >= 0; i--) {
                tape.add(word >>> 8 * i & 255);
            }
        }
        return tape.size();
    }

    private int text(int s, int n, boolean figure) {
        if (bad(6, s)) {
            return -2;
        }
        if (n < 0 || n > tape.size()) {
            return -3;
        }
        StringBuilder b = new StringBuilder();
        for (int i = 0; i < n; i++) {
            b.append((char) (int) tape.get(i));
        }
        String text = b.toString();
        at = 0;
        source = text;
        fault = 0;
        faultPlace = -1;
        Poly result;
        try {
            if (figure) {
                for (int i = 0; i < 3; i++) {
                    checkPoint(0);
                }
                expect(at == n);
            } else {
                checkPolynomial();
            }
        } catch (IllegalStateException e) {
            tape.clear();
            return -30 - fault;
        }
        at = 0;
        result = figure ? workOutFigure() : workOutPolynomial(text);
        tape.clear();
        return keep(s, result);
    }

    private String source;
    private int at;

    private char peek() {
        return at < source.length() ? source.charAt(at) : (char) 0xFFFF;
    }

    private void fail(int which, int place) {
        fault = which;
        faultPlace = place;
        throw new IllegalStateException();
    }

    private void expect(boolean fine) {
        if (!fine) {
            fail(1, at);
        }
    }

    private static boolean isLetter(char c) {
        return c >= 'a' && c <= 'j';
    }

    private static boolean isDigit(char c) {
        return c >= '0' && c <= '9';
    }

    private void checkPolynomial() {
        if (source.isEmpty()) {
            return;
        }
        if (peek() == '+' || peek() == '-') {
            at++;
        }
        checkTerm();
        while (at < source.length()) {
            expect(peek() == '+' || peek() == '-');
            at++;
            checkTerm();
        }
    }

    private void checkTerm() {
        int start = at;
        while (isDigit(peek())) {
            at++;
        }
        if (at - start > 4) {
            fail(2, start);
        }
        expect(at > start || peek() == '[');
        int many = 0;
        while (peek() == '[') {
            many++;
            if (many == 5) {
                fail(3, at);
            }
            at++;
            for (int i = 0; i < 3; i++) {
                expect(isLetter(peek()));
                at++;
            }
            expect(peek() == ']');
            at++;
        }
    }

    private static Poly workOutPolynomial(String text) {
        Poly p = new Poly();
        String signed = text.isEmpty() || text.startsWith("+") || text.startsWith("-") ? text : "+" + text;
        int i = 0;
        while (i < signed.length()) {
            int end = i + 1;
            while (end < signed.length() && signed.charAt(end) != '+' && signed.charAt(end) != '-') {
                end++;
            }
            String term = signed.substring(i + 1, end);
            int bracket = term.indexOf('[');
            String digits = bracket < 0 ? term : term.substring(0, bracket);
            BigInteger number = digits.isEmpty() ? ONE : new BigInteger(digits);
            List<String> rows = new ArrayList<>();
            for (int j = bracket; j >= 0 && j < term.length(); j += 5) {
                rows.add(term.substring(j + 1, j + 4));
            }
            layRows(p, signed.charAt(i) == '-' ? number.negate() : number, rows);
            i = end;
        }
        return p;
    }

    private void checkPoint(int open) {
        if (isLetter(peek())) {
            at++;
            return;
        }
        expect(peek() == '(');
        if (open == 2) {
            fail(4, at);
        }
        at++;
        checkPoint(open + 1);
        checkPoint(open + 1);
        expect(peek() == '^');
        at++;
        checkPoint(open + 1);
        checkPoint(open + 1);
        expect(peek() == ')');
        at++;
    }

    private Poly workOutFigure() {
        Map<Character, Poly> p = point();
        Map<Character, Poly> q = point();
        Map<Character, Poly> r = point();
        return bracketOf(p, q, r);
    }

    private Map<Character, Poly> point() {
        Map<Character, Poly> result = new TreeMap<>();
        char c = source.charAt(at++);
        if (c != '(') {
            Poly one = new Poly();
            one.lay("", ONE);
            result.put(c, one);
            return result;
        }
        Map<Character, Poly> p = point();
        Map<Character, Poly> q = point();
        at++;
        Map<Character, Poly> r = point();
        Map<Character, Poly> s = point();
        at++;
        Poly prs = bracketOf(p, r, s);
        Poly qrs = bracketOf(q, r, s);
        for (Map.Entry<Character, Poly> e : q.entrySet()) {
            result.put(e.getKey(), product(prs, e.getValue()));
        }
        for (Map.Entry<Character, Poly> e : p.entrySet()) {
            laySum(result.computeIfAbsent(e.getKey(), x -> new Poly()), product(qrs, e.getValue()), -1);
        }
        result.values().removeIf(TreeMap::isEmpty);
        return result;
    }

    private static Poly bracketOf(Map<Character, Poly> p, Map<Character, Poly> q, Map<Character, Poly> r) {
        Poly sum = new Poly();
        for (char a : p.keySet()) {
            for (char b : q.keySet()) {
                for (char c : r.keySet()) {
                    Poly one = new Poly();
                    layRows(one, ONE, List.of("" + a + b + c));
                    if (!one.isEmpty()) {
                        laySum(sum, product(product(product(one, p.get(a)), q.get(b)), r.get(c)), 1);
                    }
                }
            }
        }
        return sum;
    }

    // ---- shelves

    private static char letter(int p) {
        return (char) ('a' + p);
    }

    private int clear(int s) {
        if (bad(6, s)) {
            return -2;
        }
        int had = now.shelves[s].size();
        keep(s, new Poly());
        return had;
    }

    private int bracket(int[] a) {
        if (bad(6, a[0]) || bad(10, a[1], a[2], a[3])) {
            return -2;
        }
        Poly p = new Poly();
        layRows(p, ONE, List.of("" + letter(a[1]) + letter(a[2]) + letter(a[3])));
        return keep(a[0], p);
    }

    private int exchange(int[] a) {
        if (bad(6, a[0])) {
            return -2;
        }
        if (bad(1000, a[1], a[2]) || a[3] < 1 || a[3] > 3) {
            return -3;
        }
        Poly p = new Poly();
        layExchange(p, digits(a[1]), digits(a[2]), a[3], new ArrayList<>(), ONE);
        return keep(a[0], p);
    }

    private static String digits(int x) {
        StringBuilder b = new StringBuilder();
        for (char c : String.format("%03d", x).toCharArray()) {
            b.append(letter(c - '0'));
        }
        return b.toString();
    }

    private int add(int[] a) {
        if (bad(6, a[0], a[1], a[3])) {
            return -2;
        }
        if (Math.abs((long) a[2]) > 99 || Math.abs((long) a[4]) > 99) {
            return -3;
        }
        Poly p = new Poly();
        laySum(p, now.shelves[a[1]], a[2]);
        laySum(p, now.shelves[a[3]], a[4]);
        return keep(a[0], p);
    }

    private int rename(int[] a, boolean both) {
        if (bad(6, a[0], a[1]) || bad(10, a[2], a[3])) {
            return -2;
        }
        Poly p = new Poly();
        for (Map.Entry<String, BigInteger> e : now.shelves[a[1]].entrySet()) {
            StringBuilder b = new StringBuilder();
            for (char c : e.getKey().toCharArray()) {
                b.append(c == letter(a[2]) ? letter(a[3]) : both && c == letter(a[3]) ? letter(a[2]) : c);
            }
            layRows(p, e.getValue(), split(b.toString()));
        }
        return keep(a[0], p);
    }

    private Poly reduced(Poly from) {
        Poly p = new Poly();
        for (Map.Entry<String, BigInteger> e : from.entrySet()) {
            boolean gone = false;
            for (String b : split(e.getKey())) {
                gone |= now.facts.getOrDefault(b, 2) == 0;
            }
            if (!gone) {
                p.put(e.getKey(), e.getValue());
            }
        }
        return p;
    }

    private static String sortedBracket(int a, int b, int c) {
        char[] row = { letter(a), letter(b), letter(c) };
        return sortRow(row) == 0 ? null : new String(row);
    }

    private int fact(int[] a) {
        if (bad(10, a[0], a[1], a[2])) {
            return -2;
        }
        String b = sortedBracket(a[0], a[1], a[2]);
        if (bad(3, a[3]) || b == null) {
            return -3;
        }
        save();
        Integer was = now.facts.put(b, a[3]);
        return was == null ? 2 : was;
    }

    private int place(int[] a) {
        if (bad(10, a[0])) {
            return -2;
        }
        for (int i = 1; i <= 3; i++) {
            if (a[i] < -99 || a[i] > 99) {
                return -3;
            }
        }
        save();
        now.places[a[0]] = new int[] { a[1], a[2], a[3] };
        return 0;
    }

    // ---- what there is

    private int term(int s, int i, int what) {
        if (bad(6, s) || bad(now.shelves[s].size(), i)) {
            return Integer.MIN_VALUE;
        }
        String key = new ArrayList<>(now.shelves[s].keySet()).get(i);
        int[] b = breakOf(key);
        if (what == 0) {
            return now.shelves[s].get(key).intValueExact();
        }
        if (what == 1) {
            return key.length() / 3;
        }
        if (what == 2) {
            return b == null ? 1 : 0;
        }
        if (what == 3 || what == 4) {
            return b == null ? -1 : b[what - 3];
        }
        if (what < 10 || what > 21) {
            return Integer.MIN_VALUE;
        }
        return what - 10 < key.length() ? key.charAt(what - 10) - 'a' : -1;
    }

    private static int often(String key, int p) {
        return (int) key.chars().filter(c -> c == letter(p)).count();
    }

    private int degree(int s, int p) {
        if (bad(6, s) || bad(10, p)) {
            return -2;
        }
        int result = -1;
        for (String key : now.shelves[s].keySet()) {
            int often = often(key, p);
            if (result != -1 && result != often) {
                return -1;
            }
            result = often;
        }
        return result;
    }

    private int equal(int[] a) {
        if (bad(6, a)) {
            return -2;
        }
        Poly x = straight(now.shelves[a[0]]);
        Poly y = straight(now.shelves[a[1]]);
        return x.equals(y) ? 1 : 0;
    }

    private static void gather(List<String> chosen, int brackets, int[] left, List<String> result) {
        if (chosen.size() == brackets) {
            String key = String.join("", chosen);
            if (breakOf(key) == null) {
                result.add(key);
            }
            return;
        }
        for (int a = 0; a < 10; a++) {
            for (int b = a + 1; b < 10; b++) {
                for (int c = b + 1; c < 10; c++) {
                    String row = "" + letter(a) + letter(b) + letter(c);
                    boolean rising = chosen.isEmpty() || chosen.get(chosen.size() - 1).compareTo(row) <= 0;
                    if (rising && left[a] > 0 && left[b] > 0 && left[c] > 0) {
                        int[] rest = left.clone();
                        rest[a]--;
                        rest[b]--;
                        rest[c]--;
                        List<String> more = new ArrayList<>(chosen);
                        more.add(row);
                        gather(more, brackets, rest, result);
                    }
                }
            }
        }
    }

    private final Map<String, List<String>> gathered = new HashMap<>();

    private List<String> formsOf(String key) {
        char[] letters = key.toCharArray();
        Arrays.sort(letters);
        return gathered.computeIfAbsent(new String(letters), x -> {
            int[] left = new int[10];
            for (int p = 0; p < 10; p++) {
                left[p] = often(key, p);
            }
            List<String> result = new ArrayList<>();
            gather(new ArrayList<>(), key.length() / 3, left, result);
            Collections.sort(result);
            return result;
        });
    }

    private int forms(int s) {
        if (bad(6, s)) {
            return -2;
        }
        return now.shelves[s].isEmpty() ? -1 : formsOf(now.shelves[s].firstKey()).size();
    }

    private int form(int s, int k, int i) {
        if (bad(6, s)) {
            return -2;
        }
        if (k < 0 || i < 0) {
            return -3;
        }
        if (now.shelves[s].isEmpty()) {
            return -1;
        }
        List<String> all = formsOf(now.shelves[s].firstKey());
        return k >= all.size() || i >= all.get(k).length() ? -1 : all.get(k).charAt(i) - 'a';
    }

    private int rank(int some) {
        if (bad(64, some)) {
            return -2;
        }
        BigInteger prime = BigInteger.valueOf(1000003);
        List<TreeMap<String, BigInteger>> basis = new ArrayList<>();
        List<Poly> rows = new ArrayList<>();
        for (int s = 0; s < 6; s++) {
            if ((some & 1 << s) != 0) {
                rows.add(straight(now.shelves[s]));
            }
        }
        for (Poly p : rows) {
            TreeMap<String, BigInteger> row = new TreeMap<>();
            p.forEach((key, n) -> row.put(key, n.mod(prime)));
            for (TreeMap<String, BigInteger> b : basis) {
                BigInteger times = row.getOrDefault(b.firstKey(), BigInteger.ZERO);
                b.forEach((key, n) -> row.put(key,
                        row.getOrDefault(key, BigInteger.ZERO).subtract(times.multiply(n)).mod(prime)));
            }
            row.values().removeIf(n -> n.signum() == 0);
            if (!row.isEmpty()) {
                BigInteger inverse = row.firstEntry().getValue().modInverse(prime);
                row.replaceAll((key, n) -> n.multiply(inverse).mod(prime));
                basis.add(row);
            }
        }
        return basis.size();
    }

    private int factor(int s, int what) {
        if (bad(6, s) || bad(7, what)) {
            return -2;
        }
        Poly p = now.shelves[s];
        if (p.isEmpty() || p.firstKey().length() != 6 || p.firstKey().chars().distinct().count() != 6) {
            return 0;
        }
        char[] letters = p.firstKey().toCharArray();
        Arrays.sort(letters);
        Poly asked = straight(p);
        if (asked.isEmpty()) {
            return 0;
        }
        return search("", new String(letters), asked, what);
    }

    private int search(String row, String rest, Poly asked, int what) {
        for (int i = 0; i < rest.length(); i++) {
            int found = search(row + rest.charAt(i), rest.substring(0, i) + rest.substring(i + 1), asked, what);
            if (found != 0) {
                return found;
            }
        }
        if (!rest.isEmpty()) {
            return 0;
        }
        source = "(" + row.substring(0, 2) + "^" + row.substring(2, 4) + ")" + row.substring(4);
        at = 0;
        Poly figure = straight(workOutFigure());
        BigInteger m = asked.firstEntry().getValue().divide(figure.firstEntry().getValue());
        if (m.bitLength() > 31 || m.signum() == 0 || !figure.keySet().equals(asked.keySet())) {
            return 0;
        }
        for (String key : figure.keySet()) {
            if (!figure.get(key).multiply(m).equals(asked.get(key))) {
                return 0;
            }
        }
        return what == 0 ? m.intValueExact() : row.charAt(what - 1) - 'a' + 1;
    }

    private int isFinal(int s) {
        if (bad(6, s)) {
            return -2;
        }
        Poly p = straight(now.shelves[s]);
        Poly r = reduced(now.shelves[s]);
        if (!p.isEmpty() || r.size() != 1 || r.firstKey().isEmpty()) {
            return 0;
        }
        for (String b : split(r.firstKey())) {
            if (now.facts.getOrDefault(b, 2) != 1) {
                return 0;
            }
        }
        return 1;
    }

    private int known(int[] a) {
        if (bad(10, a)) {
            return -2;
        }
        String b = sortedBracket(a[0], a[1], a[2]);
        return b == null ? -3 : now.facts.getOrDefault(b, 2);
    }

    private int worth(int a, int b, int c) {
        int[][] rows = { now.places[a], now.places[b], now.places[c] };
        int sum = 0;
        int[][] even = { { 0, 1, 2 }, { 1, 2, 0 }, { 2, 0, 1 } };
        int[][] odd = { { 0, 2, 1 }, { 2, 1, 0 }, { 1, 0, 2 } };
        for (int i = 0; i < 3; i++) {
            sum += rows[0][even[i][0]] * rows[1][even[i][1]] * rows[2][even[i][2]];
            sum -= rows[0][odd[i][0]] * rows[1][odd[i][1]] * rows[2][odd[i][2]];
        }
        return sum;
    }

    private long value(int s) {
        if (bad(6, s)) {
            return Long.MIN_VALUE;
        }
        BigInteger sum = BigInteger.ZERO;
        for (Map.Entry<String, BigInteger> e : now.shelves[s].entrySet()) {
            BigInteger product = e.getValue();
            for (String b : split(e.getKey())) {
                product = product.multiply(BigInteger.valueOf(
                        worth(b.charAt(0) - 'a', b.charAt(1) - 'a', b.charAt(2) - 'a')));
                if (product.bitLength() > 63) {
                    return Long.MIN_VALUE;
                }
            }
            sum = sum.add(product);
            if (sum.bitLength() > 63) {
                return Long.MIN_VALUE;
            }
        }
        return sum.longValueExact();
    }

    // ---- back

    private int undo(int n) {
        if (n < 1 || n > 10 || n > past.size()) {
            return -3;
        }
        for (int i = 0; i < n; i++) {
            now = past.removeLast();
        }
        return past.size();
    }

    private int image(int i) {
        if (bad(2, i)) {
            return -2;
        }
        images[i] = now.copied();
        return 0;
    }

    private int restore(int i) {
        if (bad(2, i)) {
            return -2;
        }
        if (images[i] == null) {
            return -6;
        }
        now = images[i].copied();
        past.clear();
        return 0;
    }

    private int count(int what) {
        int sum = 0;
        switch (what) {
            case 0:
                for (Poly p : now.shelves) {
                    sum += p.size();
                }
                return sum;
            case 1:
            case 2:
                return Collections.frequency(now.facts.values(), what - 1);
            case 3:
                return tape.size();
            case 4:
                return past.size();
            case 5:
                for (int a = 0; a < 10; a++) {
                    for (int b = a + 1; b < 10; b++) {
                        for (int c = b + 1; c < 10; c++) {
                            sum += worth(a, b, c) == 0 ? 1 : 0;
                        }
                    }
                }
                return sum;
            default:
                return -1;
        }
    }
}
