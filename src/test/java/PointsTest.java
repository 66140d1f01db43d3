import java.util.Random;

/**
 * What the calls work out, looked at by points: figures by vectors and their products, sums and products by values,
 * rank and equal by the values at many points. It knows nothing of brackets and terms.
 */
public final class PointsTest {
    private static final int PRIME = 1000003;
    private static final int SIGHTS = 12;
    private static int wrong = 0;
    private static int checks = 0;

    private final Random random;
    private final BracketDesk desk = new BracketDesk();
    private final long[][] points = new long[10][3];
    private final String run;
    private String text;
    private int at;

    private PointsTest(long seed) {
        random = new Random(seed);
        run = "seed " + seed + ": ";
    }

    public static void main(String[] args) {
        for (long seed = 1; seed <= 400; seed++) {
            new PointsTest(seed).figures();
            new PointsTest(seed).sums();
            new PointsTest(seed).letters();
            new PointsTest(seed).exchanges();
            new PointsTest(seed).factsThatHold();
            new PointsTest(seed).independence();
        }
        System.out.println(checks + " checks, " + wrong + " wrong");
        if (wrong != 0 || checks < 20000) {
            System.exit(1);
        }
    }

    private void check(String what, long got, long want) {
        checks++;
        if (got != want) {
            wrong++;
            System.out.println(run + what + " answered " + got + ", due is " + want);
        }
    }

    // ---- the runs

    private void figures() {
        placeAll(9);
        for (int i = 0; i < 20; i++) {
            StringBuilder b = new StringBuilder();
            for (int j = 0; j < 3; j++) {
                writePoint(b, random.nextInt(3));
            }
            text = b.toString();
            at = 0;
            long due = determinant(readPoint(), readPoint(), readPoint());
            if (tell("figure", 0, text) >= 0) {
                check("value of " + text, desk.value(0), due);
                straightIsLike(0, text);
            } else {
                check("figure " + text, desk.why(), 2);
                check("told", desk.told(0, 0), 0);
            }
        }
    }

    private void sums() {
        placeAll(5);
        for (int i = 0; i < 15; i++) {
            tell("told", 0, polynomial(2));
            tell("told", 1, polynomial(2));
            int m = random.nextInt(199) - 99;
            int n = random.nextInt(199) - 99;
            if (desk.add(2, 0, m, 1, n) >= 0) {
                check("value of a sum", desk.value(2), m * desk.value(0) + n * desk.value(1));
                straightIsLike(2, "a sum");
            }
            if (desk.times(2, 0, 1) >= 0) {
                check("value of a product", desk.value(2), desk.value(0) * desk.value(1));
                straightIsLike(2, "a product");
            }
        }
    }

    private void letters() {
        placeAll(5);
        for (int i = 0; i < 20; i++) {
            tell("told", 0, polynomial(4));
            int p = random.nextInt(10);
            int q = random.nextInt(10);
            long[] pointOfP = points[p].clone();
            long[] pointOfQ = points[q].clone();
            desk.turn(1, 0, p, q);
            desk.put(2, 0, p, q);
            long turned = desk.value(1);
            long replaced = desk.value(2);
            place(p, pointOfQ);
            check("value of put", replaced, desk.value(0));
            place(q, pointOfP);
            check("value of turn", turned, desk.value(0));
        }
    }

    private void exchanges() {
        placeAll(9);
        for (int i = 0; i < 30; i++) {
            desk.exchange(0, random.nextInt(1000), random.nextInt(1000), 1 + random.nextInt(3));
            check("value of exchange", desk.value(0), 0);
            check("left of exchange", desk.left(0), 0);
        }
    }

    /** Facts that the points bear out: what is reduced is worth as much as what it was made of. */
    private void factsThatHold() {
        placeAll(1);
        for (int i = 0; i < 120; i++) {
            int a = random.nextInt(10);
            int b = random.nextInt(10);
            int c = random.nextInt(10);
            if (a != b && a != c && b != c) {
                desk.fact(a, b, c, desk.worth(a, b, c) == 0 ? 0 : 1);
            }
        }
        for (int i = 0; i < 12; i++) {
            tell("told", 0, polynomial(4));
            desk.reduce(1, 0);
            check("value of reduce", desk.value(1), desk.value(0));
            check("isFinal", desk.isFinal(0), desk.left(0) < 0 ? desk.left(0) : 0);
        }
    }

    /** Rank and equal are those of the values at many points (modulo the prime, by which rank goes). */
    private void independence() {
        int letters = 4 + random.nextInt(3);
        for (int s = 0; s < 6; s++) {
            tell("told", s, alike(letters));
        }
        desk.add(4, 0, random.nextInt(5) - 2, 1, random.nextInt(5) - 2);
        desk.exchange(5, 14, 23, 3);
        desk.add(5, 5, 1, random.nextInt(5), 1);
        int some = random.nextInt(64);
        long[][] seen = new long[6][SIGHTS];
        for (int i = 0; i < SIGHTS; i++) {
            placeAll(20);
            for (int s = 0; s < 6; s++) {
                seen[s][i] = desk.value(s);
            }
        }
        int s = random.nextInt(6);
        int a = random.nextInt(6);
        check("equal", desk.equal(s, a), java.util.Arrays.equals(seen[s], seen[a]) ? 1 : 0);
        check("left", Math.min(desk.left(s), 1), java.util.Arrays.equals(seen[s], new long[SIGHTS]) ? 0 : 1);
        check("rank", desk.rank(some), rankOf(seen, some));
    }

    // ---- what they share

    private void straightIsLike(int s, String what) {
        int left = desk.straight(5, s);
        if (left >= 0) {
            check("value of straight of " + what, desk.value(5), desk.value(s));
            check("steps of straight of " + what, desk.steps(5), 0);
        }
    }

    private void place(int p, long[] point) {
        points[p] = point.clone();
        desk.place(p, (int) point[0], (int) point[1], (int) point[2]);
    }

    private void placeAll(int farthest) {
        for (int p = 0; p < 10; p++) {
            long[] point = new long[3];
            for (int i = 0; i < 3; i++) {
                point[i] = random.nextInt(2 * farthest + 1) - farthest;
            }
            place(p, point);
        }
    }

    private int tell(String name, int s, String bytes) {
        for (int i = 0; i < bytes.length(); i += 20) {
            int[] five = new int[5];
            for (int j = 0; j < 20; j++) {
                five[j / 4] = five[j / 4] << 8 | (i + j < bytes.length() ? bytes.charAt(i + j) : 0);
            }
            desk.feed(five[0], five[1], five[2], five[3], five[4]);
        }
        return name.equals("told") ? desk.told(s, bytes.length()) : desk.figure(s, bytes.length());
    }

    private char letter(int letters) {
        return (char) ('a' + random.nextInt(letters));
    }

    private String polynomial(int mostBrackets) {
        StringBuilder b = new StringBuilder();
        int terms = 1 + random.nextInt(6);
        for (int i = 0; i < terms; i++) {
            b.append(random.nextBoolean() ? '+' : '-').append(1 + random.nextInt(9));
            int brackets = random.nextInt(mostBrackets + 1);
            for (int j = 0; j < brackets; j++) {
                b.append('[').append(letter(10)).append(letter(10)).append(letter(10)).append(']');
            }
        }
        return b.toString();
    }

    /** Few terms of two brackets of few letters, so that some are dependent on others. */
    private String alike(int letters) {
        StringBuilder b = new StringBuilder();
        for (int i = 0; i < 2; i++) {
            b.append(random.nextBoolean() ? '+' : '-');
            for (int j = 0; j < 2; j++) {
                b.append('[').append(letter(letters)).append(letter(letters)).append(letter(letters)).append(']');
            }
        }
        return b.toString();
    }

    private void writePoint(StringBuilder b, int deep) {
        if (deep == 0) {
            b.append(letter(10));
            return;
        }
        b.append('(');
        for (int i = 0; i < 4; i++) {
            b.append(i == 2 ? "^" : "");
            writePoint(b, random.nextInt(4) == 0 ? deep - 1 : 0);
        }
        b.append(')');
    }

    private long[] readPoint() {
        char c = text.charAt(at++);
        if (c != '(') {
            return points[c - 'a'];
        }
        long[] p = readPoint();
        long[] q = readPoint();
        at++;
        long[] r = readPoint();
        long[] s = readPoint();
        at++;
        return cross(cross(p, q), cross(r, s));
    }

    private static long[] cross(long[] a, long[] b) {
        return new long[] { a[1] * b[2] - a[2] * b[1], a[2] * b[0] - a[0] * b[2], a[0] * b[1] - a[1] * b[0] };
    }

    private static long determinant(long[] a, long[] b, long[] c) {
        long[] line = cross(a, b);
        return line[0] * c[0] + line[1] * c[1] + line[2] * c[2];
    }

    private static int rankOf(long[][] values, int some) {
        long[][] rows = new long[6][SIGHTS];
        for (int s = 0; s < 6; s++) {
            for (int i = 0; i < SIGHTS && (some >> s & 1) == 1; i++) {
                rows[s][i] = Math.floorMod(values[s][i], PRIME);
            }
        }
        int rank = 0;
        for (int column = 0; column < SIGHTS && rank < 6; column++) {
            int r = rank;
            while (r < 6 && rows[r][column] == 0) {
                r++;
            }
            if (r < 6) {
                long[] row = rows[r];
                rows[r] = rows[rank];
                rows[rank] = row;
                for (int other = rank + 1; other < 6; other++) {
                    long times = rows[other][column];
                    for (int i = 0; i < SIGHTS; i++) {
                        rows[other][i] = Math.floorMod(rows[other][i] * row[column] - row[i] * times, PRIME);
                    }
                }
                rank++;
            }
        }
        return rank;
    }
}
