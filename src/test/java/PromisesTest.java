import java.util.Arrays;

/** For each promise of the document: ordinary inputs, the edges that it names, and wrong inputs. */
public final class PromisesTest {
    private static final int NONE = BracketDesk.NONE;
    private static final int NO_INT = Integer.MIN_VALUE;
    private static final long NO_LONG = Long.MIN_VALUE;
    private static int wrong = 0;
    private static int checks = 0;
    private static int promise = 0;

    private static void due(String what, long got, long want) {
        checks++;
        if (got != want) {
            wrong++;
            System.out.println("promise " + promise + ": " + what + " answered " + got + ", due is " + want);
        }
    }

    private static void due(String what, String got, String want) {
        checks++;
        if (!got.equals(want)) {
            wrong++;
            System.out.println("promise " + promise + ": " + what + " is " + got + ", due is " + want);
        }
    }

    public static void main(String[] args) {
        Runnable[] all = { PromisesTest::newObject, PromisesTest::feed, PromisesTest::told, PromisesTest::figure,
            PromisesTest::fault, PromisesTest::why, PromisesTest::clear, PromisesTest::copy, PromisesTest::bracket,
            PromisesTest::exchange, PromisesTest::add, PromisesTest::times, PromisesTest::put, PromisesTest::turn,
            PromisesTest::straight, PromisesTest::reduce, PromisesTest::fact, PromisesTest::place,
            PromisesTest::terms, PromisesTest::term, PromisesTest::degree, PromisesTest::steps, PromisesTest::left,
            PromisesTest::equal, PromisesTest::forms, PromisesTest::form, PromisesTest::rank, PromisesTest::factor,
            PromisesTest::isFinal, PromisesTest::known, PromisesTest::at, PromisesTest::worth, PromisesTest::value,
            PromisesTest::undo, PromisesTest::image, PromisesTest::restore, PromisesTest::count };
        for (Runnable r : all) {
            promise++;
            r.run();
        }
        System.out.println(promise + " promises, " + checks + " checks, " + wrong + " wrong");
        if (wrong != 0 || promise != 37) {
            System.exit(1);
        }
    }

    // ---- helpers

    private static void feedText(BracketDesk d, String text) {
        for (int i = 0; i < text.length(); i += 20) {
            int[] five = new int[5];
            for (int j = 0; j < 20; j++) {
                five[j / 4] = five[j / 4] << 8 | (i + j < text.length() ? text.charAt(i + j) : 0);
            }
            d.feed(five[0], five[1], five[2], five[3], five[4]);
        }
    }

    private static int tell(BracketDesk d, int s, String text) {
        feedText(d, text);
        return d.told(s, text.length());
    }

    private static int tellFigure(BracketDesk d, int s, String text) {
        feedText(d, text);
        return d.figure(s, text.length());
    }

    private static BracketDesk with(String... texts) {
        BracketDesk d = new BracketDesk();
        for (int s = 0; s < texts.length; s++) {
            due("the text " + texts[s], tell(d, s, texts[s]) >= 0 ? 1 : 0, 1);
        }
        return d;
    }

    /** A shelf as a text: the number of each term with its sign, then its brackets. */
    private static String show(BracketDesk d, int s) {
        StringBuilder b = new StringBuilder();
        for (int i = 0; i < d.terms(s); i++) {
            int n = d.term(s, i, 0);
            b.append(n < 0 ? "" : "+").append(n);
            for (int j = 0; j < d.term(s, i, 1); j++) {
                b.append('[');
                for (int k = 0; k < 3; k++) {
                    b.append((char) ('a' + d.term(s, i, 10 + 3 * j + k)));
                }
                b.append(']');
            }
        }
        return b.toString();
    }

    /** So many terms of one bracket each, from bracket number first on. */
    private static String manyTerms(int first, int many) {
        StringBuilder text = new StringBuilder();
        int number = 0;
        for (int a = 0; a < 10; a++) {
            for (int b = a + 1; b < 10; b++) {
                for (int c = b + 1; c < 10; c++) {
                    if (number >= first && number < first + many) {
                        text.append("+[").append((char) ('a' + a)).append((char) ('a' + b)).append((char) ('a' + c))
                                .append(']');
                    }
                    number++;
                }
            }
        }
        return text.toString();
    }

    /** A desk whose shelf 0 has 80 terms (the first 80 brackets), shelf 1 the next 40 of the 120. */
    private static BracketDesk full() {
        BracketDesk d = with(manyTerms(0, 40), manyTerms(40, 40), manyTerms(80, 40));
        due("80 terms", d.add(0, 0, 1, 1, 1), 80);
        d.copy(1, 2);
        return d;
    }

    /** Makes a shelf 2147483647 or -2147483648 times something; the spare one is used for that. */
    private static void tellGreatest(BracketDesk d, int s, int spare, String brackets, boolean below) {
        tell(d, s, "8192" + brackets);
        tell(d, spare, below ? "-8192" : "8192");
        d.times(s, s, spare);
        if (below) {
            d.add(s, s, 32, s, 0);
        } else {
            tell(d, spare, "-1" + brackets);
            d.add(spare, s, 1, spare, 1);
            d.add(s, s, 31, spare, 1);
        }
        due("the greatest", d.term(s, 0, 0), below ? Integer.MIN_VALUE : Integer.MAX_VALUE);
    }

    // ---- the promises

    private static void newObject() {
        BracketDesk d = new BracketDesk();
        for (int s = 0; s < 6; s++) {
            due("terms(" + s + ")", d.terms(s), 0);
            due("value(" + s + ")", d.value(s), 0);
        }
        for (int i = 0; i < 5; i++) {
            due("count(" + i + ")", d.count(i), 0);
        }
        due("NONE", NONE, -1);
    }

    private static void feed() {
        BracketDesk d = new BracketDesk();
        due("bytes in order", d.feed('[' << 24 | 'a' << 16 | 'b' << 8 | 'c', ']' << 24, 0, 0, 0), 20);
        due("told", d.told(0, 5), 1);
        for (int i = 1; i <= 15; i++) {
            due("feed " + i, d.feed(-1, -1, -1, -1, -1), 20 * i);
        }
        due("more than 300", d.feed(0, 0, 0, 0, 0), -4);
        due("it has 300", d.count(3), 300);
        due("why() isn't told by feed()", d.why(), 0);
        due("all 300 can be asked", d.told(0, 301), -3);
        due("a byte of 255 can't stand", d.told(0, 300), -31);
        due("empty then", d.feed(0, 0, 0, 0, 0), 20);
    }

    private static void told() {
        BracketDesk d = new BracketDesk();
        due("nothing", tell(d, 0, ""), 0);
        due("turned", tell(d, 0, "[cba]"), 1);
        due("turned", show(d, 0), "-1[abc]");
        due("turned twice", tell(d, 0, "[cab]"), 1);
        due("turned twice", show(d, 0), "+1[abc]");
        due("order of brackets and terms", tell(d, 0, "-2[def][abc]+0007-[abc][abd]+3[abc]"), 4);
        due("order of brackets and terms", show(d, 0), "+7+3[abc]-1[abc][abd]-2[abc][def]");
        due("alike ones", tell(d, 0, "[abc][def]-[fed][cba]+2[abd]+[abd]-[dba]"), 1);
        due("alike ones", show(d, 0), "+4[abd]");
        due("brackets that are 0", tell(d, 0, "5[aab][cde]+[aba]-[baa]+0[abc]"), 0);
        due("four brackets, alike ones beside one another", tell(d, 0, "+9999[hij][abc][hij][abc]"), 1);
        due("four brackets", show(d, 0), "+9999[abc][abc][hij][hij]");
        feedText(d, "[abc]+[abd]+[abe]");
        due("only the first n", d.told(1, 11), 2);
        due("the tape is empty then", d.count(3), 0);
        feedText(d, "[abc]");
        due("shelf", d.told(6, 5), -2);
        due("shelf", d.told(-1, -1), -2);
        due("below 0", d.told(0, -1), -3);
        due("above", d.told(0, 21), -3);
        due("the tape stays", d.count(3), 20);
        due("the tape stays", d.told(0, 5), 1);
        due("a fault", tell(d, 0, "[abk]"), -31);
        due("the tape is empty then", d.count(3), 0);
        due("nothing else changes", show(d, 0), "+1[abc]");
        StringBuilder most = new StringBuilder("[abc]");
        for (int i = 0; i < 49; i++) {
            most.append("+[abc]");
        }
        due("299 bytes", tell(d, 0, most.toString()), 1);
        due("50 times", show(d, 0), "+50[abc]");
    }

    private static void figure() {
        BracketDesk d = new BracketDesk();
        due("three letters", tellFigure(d, 0, "bac"), 1);
        due("three letters", show(d, 0), "-1[abc]");
        due("two are one", tellFigure(d, 0, "aba"), 0);
        due("a meet", tellFigure(d, 0, "(ab^cd)ef"), 2);
        due("a meet", show(d, 0), "+1[acd][bef]-1[aef][bcd]");
        due("a meet in the middle", tellFigure(d, 1, "e(ab^cd)f"), 2);
        due("a meet in the middle", show(d, 1), "-1[acd][bef]+1[aef][bcd]");
        due("lines that are one", tellFigure(d, 1, "(ab^ab)cd"), 0);
        due("a line of one point", tellFigure(d, 1, "(aa^bc)de"), 0);
        due("a common point", tellFigure(d, 1, "(ab^ac)de"), 1);
        due("a common point", show(d, 1), "+1[abc][ade]");
        due("three lines through a point", tellFigure(d, 1, "(ab^cd)(ab^cd)e"), 0);
        due("nested", tellFigure(d, 1, "((ab^cd)e^fg)hi"), 4);
        due("nested", show(d, 1), "+1[acd][bfg][ehi]-1[acd][bhi][efg]-1[afg][bcd][ehi]+1[ahi][bcd][efg]");
        due("three meets", tellFigure(d, 1, "(ab^cd)(ef^gh)(ai^bj)") > 0 ? 1 : 0, 1);
        due("of four brackets", d.term(1, 0, 1), 4);
        due("five brackets", tellFigure(d, 1, "((ab^cd)(ef^gh)^(ai^bj)(ce^df))gh"), -4);
        due("why", d.why(), 2);
        due("its fault", d.fault(0), 0);
        due("changes nothing: the tape stays", d.count(3), 40);
        due("changes nothing", d.term(1, 0, 1), 4);
        due("it is there once more", d.figure(1, 33), -4);
        due("empty", d.told(5, 0), 0);
        feedText(d, "abcdefg");
        due("the first n", d.figure(2, 3), 1);
        due("the tape is empty then", d.count(3), 0);
        due("shelf", d.figure(6, 0), -2);
        due("below 0", d.figure(0, -1), -3);
        due("above", d.figure(0, 1), -3);
        due("nothing is no figure", d.figure(0, 0), -31);
        due("worth of a figure that is none", show(d, 0), "+1[acd][bef]-1[aef][bcd]");
        nestedFigureByPlaces();
    }

    /** A figure is worth what the points are worth that meets are, by cross products. */
    private static void nestedFigureByPlaces() {
        BracketDesk d = new BracketDesk();
        long[][] p = { { 1, 2, 1 }, { -3, 2, 5 }, { 4, 1, 1 }, { 2, 2, -7 }, { 5, 0, 1 }, { -1, -1, 3 }, { 0, 2, 9 },
            { 3, -4, 1 }, { 1, 1, 1 }, { 2, -5, 3 } };
        for (int i = 0; i < 10; i++) {
            d.place(i, (int) p[i][0], (int) p[i][1], (int) p[i][2]);
        }
        due("nested", tellFigure(d, 0, "((ab^cd)e^fg)hi") > 0 ? 1 : 0, 1);
        long[] inner = meet(p[0], p[1], p[2], p[3]);
        long[] outer = meet(inner, p[4], p[5], p[6]);
        due("value", d.value(0), determinant(outer, p[7], p[8]));
        due("two nested ones", tellFigure(d, 0, "a(b(cd^ef)^(gh^ij)c)d") > 0 ? 1 : 0, 1);
        outer = meet(p[1], meet(p[2], p[3], p[4], p[5]), meet(p[6], p[7], p[8], p[9]), p[2]);
        due("value", d.value(0), determinant(p[0], outer, p[3]));
        due("three meets", tellFigure(d, 0, "(ab^cd)(ef^gh)(ai^bj)") > 0 ? 1 : 0, 1);
        due("value", d.value(0), determinant(meet(p[0], p[1], p[2], p[3]), meet(p[4], p[5], p[6], p[7]),
                meet(p[0], p[8], p[1], p[9])));
    }

    private static long determinant(long[] a, long[] b, long[] c) {
        return a[0] * (b[1] * c[2] - b[2] * c[1]) - a[1] * (b[0] * c[2] - b[2] * c[0])
                + a[2] * (b[0] * c[1] - b[1] * c[0]);
    }

    private static long[] meet(long[] p, long[] q, long[] r, long[] s) {
        long first = determinant(p, r, s);
        long second = determinant(q, r, s);
        return new long[] { first * q[0] - second * p[0], first * q[1] - second * p[1],
            first * q[2] - second * p[2] };
    }

    private static void dueFault(String text, boolean figure, int fault, int place) {
        BracketDesk d = with("[abc]");
        int code = figure ? tellFigure(d, 0, text) : tell(d, 0, text);
        due("code of " + text, code < -30 ? code : 0, fault == 0 ? 0 : -30 - fault);
        due("fault of " + text, d.fault(0), fault);
        due("place of " + text, d.fault(1), place);
        if (fault != 0) {
            due("nothing changes by " + text, show(d, 0), "+1[abc]");
        }
    }

    private static void fault() {
        BracketDesk d = new BracketDesk();
        due("at first", d.fault(0), 0);
        due("at first", d.fault(1), NONE);
        due("others", d.fault(2), NONE);
        due("others", d.fault(-1), NONE);
        tell(d, 0, "[abc");
        due("the end", d.fault(1), 4);
        due("others", d.fault(2), NONE);
        due("others", d.fault(-1), NONE);
        due("refused ahead of reading", d.told(0, 1), -3);
        due("refused ahead of reading", d.told(7, 0), -2);
        due("that of the latest that read", d.fault(1), 4);
        due("a text of no bytes is read", d.told(0, 0), 0);
        due("none", d.fault(0), 0);
        due("none", d.fault(1), NONE);
        String[] ones = { "+ 1", "- 1", "[abc]] 5", "++[abc] 1", "[abc]+ 6", "[abc]- 6", "[abc]2 5", "[abc]+[abc]3 11",
            "] 0", "2] 1", "a 0", "[a 2", "[ab 3", "[abcd] 4", "[[ 1", "[aBc] 2", "[abk] 3", "1+-1 2", "12a 2",
            "[abc]12345 5", "[abc]( 5", "3* 1", "1234+ 5" };
        for (String one : ones) {
            int blank = one.indexOf(' ');
            dueFault(one.substring(0, blank), false, 1, Integer.parseInt(one.substring(blank + 1)));
        }
        dueFault("12345", false, 2, 0);
        dueFault("-12345", false, 2, 1);
        dueFault("[abc]+000001", false, 2, 6);
        dueFault("12345]]", false, 2, 0);
        dueFault("1]12345", false, 1, 1);
        dueFault("[abc][abc][abc][abc][", false, 3, 20);
        dueFault("[abc][abc][abc][abc][abc]", false, 3, 20);
        dueFault("5[aaa][aaa][aaa][aaa]+5[abc][abc][abc][abc][a", false, 3, 43);
        dueFault("[abc][abc][abc][abc]+[abc][abc][abc][abc]-7", false, 0, NONE);
        figureFaults();
    }

    private static void figureFaults() {
        String[] ones = { " 0", "a 1", "ab 2", "abcd 3", "k 0", "(ab^cd)e 8", "(abcd) 3", "(ab^c) 5", "(ab^cde 6",
            ") 0", "(ab^cd 6", "( 1", "((ab^cd)ef^gh)ab 9", "abc( 3", "a^ 1", "(ab^^ 4", "((ab( 4", "((ab^cd( 7",
            "((ab^cd)e^fg)hi) 15", "[ab] 0", "ab] 2" };
        for (String one : ones) {
            int blank = one.indexOf(' ');
            dueFault(one.substring(0, blank), true, 1, Integer.parseInt(one.substring(blank + 1)));
        }
        dueFault("(((ab^cd)e^fg)h^ij)ab", true, 4, 2);
        dueFault("((ab^cd)((ab^cd)(", true, 4, 9);
        dueFault("((ab^cd)(a(", true, 4, 10);
        dueFault("((ab^cd)(ef^gh)^(ij^ab)(cd^ef))gh", true, 0, NONE);
    }

    private static void why() {
        BracketDesk d = full();
        due("at first", new BracketDesk().why(), 0);
        due("terms", d.add(2, 0, 1, 1, 1), -4);
        due("terms", d.why(), 1);
        due("others leave it", d.terms(0), 80);
        due("others leave it", d.clear(9), -2);
        due("others leave it", d.reduce(5, 0), 80);
        due("others leave it", d.why(), 1);
        due("a text of no bytes", d.told(5, 0), 0);
        due("a text of no bytes", d.why(), 0);
        tell(d, 2, "[abc][abc]");
        tell(d, 3, "[abc][abc][abc]");
        due("brackets", d.times(4, 2, 3), -4);
        due("brackets", d.why(), 2);
        due("-2 is neither", d.times(4, 2, 6), -2);
        due("-2 is neither", d.why(), 0);
        String[] calls = { "told", "figure", "add", "times", "put", "turn", "straight", "steps", "left", "equal",
            "rank", "factor", "isFinal" };
        for (String call : calls) {
            d.times(4, 2, 3);
            due("ahead of " + call, d.why(), 2);
            wrongCall(d, call);
            due(call + " that tells neither", d.why(), 0);
        }
        tellGreatest(d, 0, 1, "[abc]", false);
        due("a number", d.add(5, 0, 2, 1, 0), -7);
        due("a number", d.why(), 4);
        due("-3 is neither", d.add(5, 0, 100, 1, 0), -3);
        due("-3 is neither", d.why(), 0);
    }

    private static void wrongCall(BracketDesk d, String call) {
        switch (call) {
            case "told": d.told(9, 0); break;
            case "figure": d.figure(0, 0); break;
            case "add": d.add(9, 0, 0, 0, 0); break;
            case "times": d.times(9, 0, 0); break;
            case "put": d.put(9, 0, 0, 0); break;
            case "turn": d.turn(9, 0, 0, 0); break;
            case "straight": d.straight(9, 0); break;
            case "steps": d.steps(9); break;
            case "left": d.left(9); break;
            case "equal": d.equal(9, 0); break;
            case "rank": d.rank(99); break;
            case "factor": d.factor(9, 0); break;
            default: d.isFinal(9); break;
        }
    }

    private static void clear() {
        BracketDesk d = with("[abc]+[abd]");
        due("had", d.clear(0), 2);
        due("has", d.terms(0), 0);
        due("had", d.clear(0), 0);
        due("no shelf", d.clear(6), -2);
        due("no shelf", d.clear(-1), -2);
        due("two calls more", d.undo(1), 2);
    }

    private static void copy() {
        BracketDesk d = with("[abc]+[abd]", "7");
        due("terms", d.copy(1, 0), 2);
        due("copied", show(d, 1), "+1[abc]+1[abd]");
        due("itself", d.copy(0, 0), 2);
        d.clear(0);
        due("its own", show(d, 1), "+1[abc]+1[abd]");
        due("no shelf", d.copy(6, 0), -2);
        due("no shelf", d.copy(0, -1), -2);
    }

    private static void bracket() {
        BracketDesk d = new BracketDesk();
        int[][] rows = { { 0, 1, 9, 1 }, { 1, 0, 9, -1 }, { 9, 0, 1, 1 }, { 9, 1, 0, -1 }, { 0, 9, 1, -1 }, { 1, 9, 0, 1 } };
        for (int[] r : rows) {
            due("terms", d.bracket(0, r[0], r[1], r[2]), 1);
            due("sign of " + Arrays.toString(r), show(d, 0), (r[3] < 0 ? "-1" : "+1") + "[abj]");
        }
        due("two are one", d.bracket(0, 1, 1, 2), 0);
        due("two are one", d.bracket(0, 1, 2, 1), 0);
        due("two are one", d.bracket(0, 2, 1, 1), 0);
        due("shelf", d.bracket(6, 0, 1, 2), -2);
        due("letter", d.bracket(0, 0, 1, 10), -2);
        due("letter", d.bracket(0, -1, 1, 2), -2);
        due("letter", d.bracket(0, 1, 10, 2), -2);
    }

    private static void exchange() {
        BracketDesk d = new BracketDesk();
        due("at 1", d.exchange(0, 123, 45, 1), 4);
        // [bcd][aef] - [bca][def] + [bda][cef] - [cda][bef]
        due("at 1", show(d, 0), "-1[abc][def]+1[abd][cef]-1[acd][bef]+1[aef][bcd]");
        due("at 3", d.exchange(0, 14, 23, 3), 3);
        due("at 3", show(d, 0), "+1[abc][ade]-1[abd][ace]+1[abe][acd]");
        due("at 2", d.exchange(0, 45, 123, 2), 6);
        // [aef][bcd] - [aeb][fcd] + [aec][fbd] + [afb][ecd] - [afc][ebd] + [abc][efd]
        due("at 2", show(d, 0), "+1[abc][def]+1[abe][cdf]-1[abf][cde]-1[ace][bdf]+1[acf][bde]+1[aef][bcd]");
        for (int k = 1; k <= 3; k++) {
            d.exchange(0, 345, 12, k);
            due("0 for all points", d.left(0), 0);
        }
        due("rows that don't rise", d.exchange(0, 541, 302, 2) > 0 ? 1 : 0, 1);
        due("0 for all points", d.left(0), 0);
        due("letters that are one", d.exchange(0, 0, 0, 1), 0);
        due("999", d.exchange(0, 999, 999, 3), 0);
        due("shelf", d.exchange(6, 1000, 0, 1), -2);
        due("x", d.exchange(0, 1000, 0, 1), -3);
        due("x", d.exchange(0, -1, 0, 1), -3);
        due("y", d.exchange(0, 0, 1000, 1), -3);
        due("y", d.exchange(0, 0, -1, 1), -3);
        due("k", d.exchange(0, 0, 0, 0), -3);
        due("k", d.exchange(0, 0, 0, 4), -3);
    }

    private static void add() {
        BracketDesk d = with("[abc]+2[abd]", "3[abd]-[abe]+4");
        due("sum", d.add(2, 0, 3, 1, -2), 3);
        due("sum", show(d, 2), "-8+3[abc]+2[abe]");
        due("0 times", d.add(2, 0, 0, 1, 0), 0);
        due("onto one of them", d.add(0, 0, 99, 0, -98), 2);
        due("onto one of them", show(d, 0), "+1[abc]+2[abd]");
        due("shelf first", d.add(6, 0, 100, 0, 0), -2);
        due("shelf", d.add(0, -1, 1, 0, 0), -2);
        due("shelf", d.add(0, 0, 1, 6, 0), -2);
        due("number", d.add(0, 0, 100, 0, 0), -3);
        due("number", d.add(0, 0, -100, 0, 0), -3);
        due("number", d.add(0, 0, 1, 0, 100), -3);
        due("number", d.add(0, 0, 1, 0, -100), -3);
        addAtTheEdges();
    }

    private static void addAtTheEdges() {
        BracketDesk d = full();
        due("an 81st", d.add(2, 0, 1, 1, 1), -4);
        due("80 that go", d.add(2, 0, 1, 0, -1), 0);
        due("0 times what would be more", d.add(2, 0, 1, 1, 0), 80);
        tellGreatest(d, 2, 3, "[hij]", false);
        due("the 81st is met first", d.add(4, 0, 1, 2, 1), -4);
        due("why", d.why(), 1);
        due("its own number is met first", d.add(4, 0, 1, 2, 2), -7);
        due("why", d.why(), 4);
        tell(d, 3, "[hij]");
        due("the number of both", d.add(4, 2, 1, 3, 1), -7);
        due("the ends of an int", d.add(4, 2, -1, 3, -1), 1);
        due("the ends of an int", d.term(4, 0, 0), Integer.MIN_VALUE);
        due("back from there", d.add(4, 4, 1, 3, 1), 1);
        due("- what has no other", d.add(4, 2, -1, 3, -1) == 1 ? d.add(4, 4, -1, 3, 0) : 0, -7);
        due("nothing changes", d.term(4, 0, 0), Integer.MIN_VALUE);
        due("not by way of what is none", d.add(5, 2, 2, 2, -1), -7);
    }

    private static void times() {
        BracketDesk d = with("[abd]-[abc]", "2[abc]+3", "[abc][abc]", "[def][def][def]");
        due("product", d.times(4, 0, 1), 4);
        due("product", show(d, 4), "-3[abc]-2[abc][abc]+2[abc][abd]+3[abd]");
        due("by 0", d.times(4, 0, 5), 0);
        due("itself", d.times(0, 0, 0), 3);
        due("itself", show(d, 0), "+1[abc][abc]-2[abc][abd]+1[abd][abd]");
        due("four brackets", d.times(4, 2, 2), 1);
        due("five brackets", d.times(4, 2, 3), -4);
        due("why", d.why(), 2);
        due("brackets are met ahead of numbers", tooGreatAndTooMany(), 2);
        BracketDesk e = with(manyTerms(0, 9), manyTerms(30, 9), manyTerms(60, 10));
        due("81 terms", e.times(3, 0, 1), -4);
        due("why", e.why(), 1);
        tell(e, 0, manyTerms(0, 8));
        due("80 terms", e.times(3, 0, 2), 80);
        due("shelf", d.times(6, 0, 0), -2);
        due("shelf", d.times(0, -1, 0), -2);
        due("shelf", d.times(0, 0, 6), -2);
        tellGreatest(d, 0, 1, "", true);
        tell(d, 1, "-1");
        due("no int", d.times(2, 0, 1), -7);
        due("why", d.why(), 4);
        tell(d, 1, "1-[abc]");
        due("no int, as the second is put", d.times(2, 0, 1), -7);
    }

    private static int tooGreatAndTooMany() {
        BracketDesk d = with("", "", "", "[abc][abc]");
        tellGreatest(d, 0, 1, "[abc][abc][abc]", false);
        d.times(4, 0, 3);
        int first = d.why();
        tell(d, 3, "2+[abc][abc]");
        d.times(4, 0, 3);
        return d.why() == 4 ? first : -1;
    }

    private static void put() {
        BracketDesk d = with("[abc][ade]-2[abd]+[abe]+5");
        due("e for c", d.put(1, 0, 2, 4), 4);
        due("e for c", show(d, 1), "+5-2[abd]+1[abe]+1[abe][ade]");
        due("a for b", d.put(1, 0, 1, 0), 1);
        due("a for b", show(d, 1), "+5");
        due("alike ones", d.put(1, 0, 4, 3), 2);
        due("alike ones", show(d, 1), "+5-1[abd]");
        due("sign", d.put(1, 0, 0, 9), 4);
        due("sign", show(d, 1), "+5+1[bcj][dej]-2[bdj]+1[bej]");
        due("itself", d.put(1, 0, 0, 0), 4);
        due("one that isn't there", d.put(1, 0, 8, 0), 4);
        due("onto itself", d.put(0, 0, 1, 0), 1);
        due("shelf", d.put(6, 0, 0, 0), -2);
        due("shelf", d.put(0, 6, 0, 0), -2);
        due("letter", d.put(0, 0, 10, 0), -2);
        due("letter", d.put(0, 0, 0, -1), -2);
        tellGreatest(d, 0, 1, "[abc]", true);
        due("no int", d.put(2, 0, 0, 9), 1);
        due("no int", d.put(2, 0, 1, 9), -7);
        due("why", d.why(), 4);
        due("what is 0 isn't there", d.put(2, 0, 1, 0), 0);
        tell(d, 1, "-[abd]");
        d.add(0, 0, 1, 1, 1);
        due("both together", d.put(2, 0, 3, 2), -7);
    }

    private static void turn() {
        BracketDesk d = with("[abc][ade]-2[bcd]+3");
        due("a and b", d.turn(1, 0, 0, 1), 3);
        due("a and b", show(d, 1), "+3-1[abc][bde]-2[acd]");
        due("and back", d.turn(1, 1, 1, 0), 3);
        due("and back", d.equal(0, 1), 1);
        due("itself", d.turn(1, 0, 4, 4), 3);
        due("itself", show(d, 1), show(d, 0));
        due("shelf", d.turn(6, 0, 0, 0), -2);
        due("shelf", d.turn(0, -1, 0, 0), -2);
        due("letter", d.turn(0, 0, 10, 0), -2);
        due("letter", d.turn(0, 0, 0, -1), -2);
        tellGreatest(d, 0, 1, "[abc]", true);
        due("no int", d.turn(2, 0, 0, 1), -7);
        due("why", d.why(), 4);
        due("no bracket", d.turn(2, 0, 5, 6), 1);
        tellGreatest(d, 0, 1, "[abc][abd]", true);
        due("turned twice", d.turn(2, 0, 0, 1), 1);
    }

    private static void straight() {
        BracketDesk d = with("[abe][acd]", "[aef][bcd]", "7+[abc]");
        due("one step", d.straight(3, 0), 2);
        due("one step", show(d, 3), "-1[abc][ade]+1[abd][ace]");
        due("six letters", d.straight(4, 1) > 0 ? 1 : 0, 1);
        due("alike for points", d.equal(4, 1), 1);
        for (int i = 0; i < d.terms(4); i++) {
            due("standard", d.term(4, i, 2), 1);
        }
        due("standard ones stay", d.straight(2, 2), 2);
        due("standard ones stay", show(d, 2), "+7+1[abc]");
        due("shelf", d.straight(6, 0), -2);
        due("shelf", d.straight(0, 6), -2);
        tellGreatest(d, 0, 1, "[abe][acd]", true);
        due("- its number is none", d.straight(2, 0), -7);
        due("why", d.why(), 4);
        due("nothing changes", show(d, 2), "+7+1[abc]");
        tellGreatest(d, 0, 1, "[abe][acd]", false);
        due("the greatest goes", d.straight(2, 0), 2);
        due("the greatest goes", show(d, 2), "-2147483647[abc][ade]+2147483647[abd][ace]");
        tell(d, 1, "-2[abc][ade]");
        d.add(0, 0, 1, 1, 1);
        due("both together", d.straight(2, 0), -7);
    }

    private static void reduce() {
        BracketDesk d = with("[abc][ade]+[abd][ace]+3[abe]+4");
        due("no facts", d.reduce(1, 0), 4);
        d.fact(4, 3, 0, 0);
        d.fact(0, 1, 4, 1);
        due("one goes", d.reduce(1, 0), 3);
        due("one goes", show(d, 1), "+4+1[abd][ace]+3[abe]");
        d.fact(0, 1, 4, 0);
        due("onto itself", d.reduce(0, 0), 2);
        due("onto itself", show(d, 0), "+4+1[abd][ace]");
        due("shelf", d.reduce(6, 0), -2);
        due("shelf", d.reduce(0, -1), -2);
    }

    private static void fact() {
        BracketDesk d = new BracketDesk();
        due("was", d.fact(0, 1, 2, 0), 2);
        due("was", d.fact(2, 1, 0, 1), 0);
        due("was", d.fact(1, 2, 0, 2), 1);
        due("was", d.fact(1, 0, 2, 2), 2);
        due("letter", d.fact(10, 0, 0, 9), -2);
        due("letter", d.fact(0, -1, 2, 0), -2);
        due("v", d.fact(0, 1, 2, 3), -3);
        due("v", d.fact(0, 1, 2, -1), -3);
        due("two are one", d.fact(1, 1, 2, 0), -3);
        due("two are one", d.fact(1, 2, 1, 0), -3);
        due("undone, each", d.count(4), 4);
        int all = 0;
        for (int a = 0; a < 10; a++) {
            for (int b = a + 1; b < 10; b++) {
                for (int c = b + 1; c < 10; c++) {
                    all += d.fact(a, b, c, (a + b + c) % 2) == 2 ? 1 : 0;
                }
            }
        }
        due("120 of them", all, 120);
        due("120 of them", d.count(1) + d.count(2), 120);
        due("each its own", d.known(7, 8, 9), 0);
        due("each its own", d.known(6, 8, 9), 1);
    }

    private static void place() {
        BracketDesk d = new BracketDesk();
        due("place", d.place(9, -99, 99, 7), 0);
        due("x", d.at(9, 0), -99);
        due("y", d.at(9, 1), 99);
        due("z", d.at(9, 2), 7);
        due("letter first", d.place(10, 100, 0, 0), -2);
        due("letter", d.place(-1, 0, 0, 0), -2);
        due("x", d.place(9, 100, 0, 0), -3);
        due("y", d.place(9, 0, -100, 0), -3);
        due("z", d.place(9, 0, 0, 100), -3);
        due("nothing changes", d.at(9, 0), -99);
        due("undone", d.undo(1), 0);
        due("undone", d.at(9, 1), 0);
    }

    private static void terms() {
        BracketDesk d = with("[abc]+1", "");
        due("two", d.terms(0), 2);
        due("none", d.terms(1), 0);
        due("shelf", d.terms(6), -2);
        due("shelf", d.terms(-1), -2);
    }

    private static void term() {
        BracketDesk d = with("-3[abe][acd]+[abc][acd][abd][abd]+[abc][aef][bcd]+9");
        int[][] due = {
            { 0, 0, 9 }, { 0, 1, 0 }, { 0, 2, 1 }, { 0, 3, NONE }, { 0, 4, NONE }, { 0, 10, NONE },
            { 1, 0, 1 }, { 1, 1, 4 }, { 1, 2, 1 }, { 1, 21, 3 }, { 1, 19, 0 }, { 1, 12, 2 },
            { 2, 1, 3 }, { 2, 2, 0 }, { 2, 3, 1 }, { 2, 4, 2 }, { 2, 18, 3 }, { 2, 19, NONE }, { 2, 21, NONE },
            { 3, 0, -3 }, { 3, 1, 2 }, { 3, 2, 0 }, { 3, 3, 0 }, { 3, 4, 3 }, { 3, 15, 3 }, { 3, 16, NONE } };
        for (int[] x : due) {
            due("term(0, " + x[0] + ", " + x[1] + ")", d.term(0, x[0], x[1]), x[2]);
        }
        for (int what : new int[] { -1, 5, 9, 22, Integer.MAX_VALUE, Integer.MIN_VALUE }) {
            due("what " + what, d.term(0, 0, what), NO_INT);
        }
        due("shelf", d.term(6, 0, 0), NO_INT);
        due("shelf", d.term(-1, 0, 0), NO_INT);
        due("term", d.term(0, 4, 0), NO_INT);
        due("term", d.term(0, -1, 0), NO_INT);
    }

    private static void degree() {
        BracketDesk d = with("[abc][abd]+[abc][abc]", "", "4", "[abc]+1");
        due("twice", d.degree(0, 0), 2);
        due("not in each as often", d.degree(0, 2), NONE);
        due("not there", d.degree(0, 9), 0);
        due("no terms", d.degree(1, 0), NONE);
        due("a number", d.degree(2, 0), 0);
        due("not in each as often", d.degree(3, 0), NONE);
        due("shelf", d.degree(6, 0), -2);
        due("letter, ahead of NONE", d.degree(1, 10), -2);
        due("letter", d.degree(0, -1), -2);
    }

    private static void steps() {
        BracketDesk d = with("[abe][acd]", "[abc]", "[abe][acd]-[abd][ace]+[abc][ade]");
        due("one", d.steps(0), 1);
        due("none", d.steps(1), 0);
        due("0, by one", d.steps(2), 1);
        due("nothing", d.steps(3), 0);
        due("shelf", d.steps(6), -2);
        due("shelf stays", show(d, 0), "+1[abe][acd]");
        due("not undone", d.count(4), 3);
        manySteps();
    }

    /** Polynomials whose straightening takes some 900 steps, found by search. */
    private static void manySteps() {
        String[] ahead = { "[cde][cji][baf][ghc]", "[fde][cji][bac][ghc]" };
        String behind = "+[jca][fah][fdi][dge]+[dfi][ahj][jge][gfe]+[agi][jha][jba][efd]+[ejh][bji][dih][fge]";
        String[] between = { "+[ahd][cei][fde][jca]", "+[ahd][cei][cde][jfa]" };
        String last = "+[gic][ech][dfe][jgb]+[bac][hai][bdf][aje]+[cji][djh][chi][fge]+[fbh][fbh][bed][gai]"
                + "+[gef][ehj][dhi][jia]+[ifa][cgd][fjc][ged]";
        BracketDesk d = with(ahead[0] + behind + between[0] + last, ahead[1] + behind + between[1] + last, "[abc]");
        due("900", d.steps(0), 900);
        due("900", d.left(0), 63);
        due("900", d.straight(3, 0), 63);
        due("901", d.steps(1), -4);
        due("901", d.why(), 3);
        due("901", d.left(1), -4);
        due("901", d.straight(3, 1), -4);
        due("901", d.why(), 3);
        due("nothing changes", d.terms(3), 63);
        due("901", d.equal(2, 1), -4);
        due("901", d.rank(7), -4);
        due("not asked", d.rank(13), 2);
        due("901", d.isFinal(1), -4);
        due("901", d.why(), 3);
    }

    private static void left() {
        BracketDesk d = with("[abe][acd]", "[abc]-[bca]", "[abe][acd]-[abd][ace]+[abc][ade]");
        due("two", d.left(0), 2);
        due("none", d.left(1), 0);
        due("0 for all points", d.left(2), 0);
        due("shelf", d.left(-1), -2);
        tellGreatest(d, 0, 1, "[abe][acd]", true);
        due("no int", d.left(0), -7);
        due("why", d.why(), 4);
    }

    private static void equal() {
        BracketDesk d = with("[abe][acd]", "[abd][ace]-[abc][ade]", "[abc]", "");
        due("equal", d.equal(0, 1), 1);
        due("equal", d.equal(1, 0), 1);
        due("itself", d.equal(0, 0), 1);
        due("not", d.equal(0, 2), 0);
        due("not 0", d.equal(3, 2), 0);
        due("0", d.equal(3, 4), 1);
        due("shelf", d.equal(6, 0), -2);
        due("shelf", d.equal(0, -1), -2);
        tell(d, 1, "2[abc]");
        due("a number", d.equal(1, 2), 0);
        tellGreatest(d, 0, 1, "[abe][acd]", true);
        due("no int", d.equal(0, 2), -7);
        due("no int", d.equal(2, 0), -7);
        due("no int", d.equal(0, 0), -7);
    }

    private static void forms() {
        BracketDesk d = with("[abc][def]", "[abc][def][ghi]", "[abc][def][ghi][abj]", "3", "[abc][abc][abc][abc]");
        due("six letters", d.forms(0), 5);
        due("nine letters", d.forms(1), 42);
        due("a number", d.forms(3), 1);
        due("but one", d.forms(4), 1);
        due("no terms", d.forms(5), NONE);
        due("shelf", d.forms(6), -2);
        due("shelf", d.forms(-1), -2);
        int many = d.forms(2);
        due("the last one is there", d.form(2, many - 1, 0), 0);
        due("and no more", d.form(2, many, 0), NONE);
    }

    private static void form() {
        BracketDesk d = with("[aef][bcd]", "4", "");
        int[][] due = { { 0, 1, 2, 3, 4, 5 }, { 0, 1, 3, 2, 4, 5 }, { 0, 1, 4, 2, 3, 5 }, { 0, 2, 3, 1, 4, 5 },
            { 0, 2, 4, 1, 3, 5 } };
        for (int k = 0; k < 5; k++) {
            for (int i = 0; i < 6; i++) {
                due("form " + k + " letter " + i, d.form(0, k, i), due[k][i]);
            }
        }
        due("no form", d.form(0, 5, 0), NONE);
        due("no form", d.form(0, Integer.MAX_VALUE, 0), NONE);
        due("no letter", d.form(0, 0, 6), NONE);
        due("no letter", d.form(0, 0, Integer.MAX_VALUE), NONE);
        due("a number", d.form(1, 0, 0), NONE);
        due("no terms", d.form(2, 0, 0), NONE);
        due("shelf", d.form(6, -1, 0), -2);
        due("k, ahead of NONE", d.form(2, -1, 0), -3);
        due("i", d.form(0, 0, -1), -3);
    }

    private static void rank() {
        BracketDesk d = with("[abc]", "[abd]", "2[abc]-3[abd]", "[abe][acd]", "[abd][ace]-[abc][ade]", "");
        due("none asked", d.rank(0), 0);
        due("two", d.rank(3), 2);
        due("three, of which two are", d.rank(7), 2);
        due("by straightening", d.rank(24), 1);
        due("all", d.rank(63), 3);
        due("0", d.rank(32), 0);
        due("bits", d.rank(64), -2);
        due("bits", d.rank(-1), -2);
        // 1000003 = 101 * 9901 + 2 = 9901 * 101 + 2
        tell(d, 4, "9901");
        tell(d, 5, "101");
        d.times(4, 4, 5);
        tell(d, 5, "2");
        d.add(4, 4, 1, 5, 1);
        due("modulo", d.term(4, 0, 0), 1000003);
        due("modulo", d.rank(16), 0);
        d.times(5, 4, 0);
        d.add(5, 5, 1, 1, 1);
        due("modulo", d.rank(34), 1);
        d.add(5, 5, -2, 1, 0);
        due("modulo, below 0", d.rank(34), 1);
        tellGreatest(d, 0, 1, "[abe][acd]", true);
        due("no int", d.rank(63), -7);
        due("why", d.why(), 4);
        due("not asked", d.rank(62) >= 0 ? 1 : 0, 1);
    }

    private static void dueFactor(BracketDesk d, int s, int... want) {
        for (int what = 0; what < 7; what++) {
            due("factor(" + s + ", " + what + ")", d.factor(s, what), want[what]);
        }
    }

    private static void factor() {
        BracketDesk d = with("5", "[abc]", "[abc][abd]", "[abc][def]", "[abc][def]-[abc][def]");
        for (int s = 0; s < 6; s++) {
            dueFactor(d, s, 0, 0, 0, 0, 0, 0, 0);
        }
        tellFigure(d, 0, "(ab^cd)ef");
        dueFactor(d, 0, 1, 1, 2, 3, 4, 5, 6);
        tellFigure(d, 0, "(ba^dj)ih");
        tell(d, 1, "-7");
        d.times(0, 0, 1);
        dueFactor(d, 0, -7, 1, 2, 4, 10, 8, 9);
        tellFigure(d, 0, "(cd^ab)ef");
        dueFactor(d, 0, -1, 1, 2, 3, 4, 5, 6);
        tellFigure(d, 0, "(ad^be)cf");
        dueFactor(d, 0, 1, 1, 4, 2, 5, 3, 6);
        tell(d, 1, "3[abc]");
        d.add(0, 0, 1, 1, 1);
        due("the first term isn't so", d.factor(0, 0), 0);
        tellFigure(d, 0, "(ab^cd)ef");
        tell(d, 1, "[def][hij]");
        d.add(0, 0, 1, 1, 1);
        due("other letters too", d.factor(0, 0), 0);
        due("shelf", d.factor(6, 0), -2);
        due("what", d.factor(0, 7), -2);
        due("what", d.factor(0, -1), -2);
        factorAtTheEdges();
    }

    private static void factorAtTheEdges() {
        BracketDesk d = new BracketDesk();
        tellGreatest(d, 0, 1, "[aef][bcd]", true);
        due("no int", d.factor(0, 0), -7);
        due("why", d.why(), 4);
        tellGreatest(d, 2, 1, "[abc]", true);
        d.add(3, 0, 1, 2, 1);
        due("asked ahead of straightening", d.factor(3, 0), 0);
        due("why", d.why(), 0);
        tellFigure(d, 0, "(ab^cd)ef");
        tellGreatest(d, 2, 1, "", false);
        d.straight(0, 0);
        d.times(0, 0, 2);
        dueFactor(d, 0, Integer.MAX_VALUE, 1, 2, 3, 4, 5, 6);
    }

    private static void isFinal() {
        BracketDesk d = with("[abe][acd]-[abd][ace]+[abc][ade]", "", "[abe][acd]");
        due("no facts", d.isFinal(0), 0);
        d.fact(0, 1, 3, 0);
        d.fact(0, 1, 2, 0);
        d.fact(0, 2, 3, 1);
        due("one of two is told", d.isFinal(0), 0);
        d.fact(4, 1, 0, 1);
        due("both are", d.isFinal(0), 1);
        due("not equal to 0", d.isFinal(2), 0);
        due("0 has no term", d.isFinal(1), 0);
        d.fact(0, 1, 2, 1);
        d.fact(0, 3, 4, 1);
        due("two terms stay", d.isFinal(0), 0);
        d.fact(0, 1, 2, 2);
        due("two terms stay", d.isFinal(0), 0);
        due("shelf", d.isFinal(6), -2);
        tellGreatest(d, 0, 1, "[abe][acd]", true);
        due("no int", d.isFinal(0), -7);
        due("why", d.why(), 4);
        due("shelf stays", d.terms(0), 1);
    }

    private static void known() {
        BracketDesk d = new BracketDesk();
        due("nothing", d.known(7, 8, 9), 2);
        d.fact(9, 7, 8, 0);
        due("whatever the order", d.known(8, 7, 9), 0);
        due("others", d.known(6, 8, 9), 2);
        due("letter first", d.known(10, 1, 1), -2);
        due("letter", d.known(0, 1, -1), -2);
        due("two are one", d.known(0, 0, 1), -3);
        due("two are one", d.known(0, 1, 0), -3);
        due("two are one", d.known(1, 0, 0), -3);
    }

    private static void at() {
        BracketDesk d = new BracketDesk();
        d.place(3, 4, -5, 6);
        due("x", d.at(3, 0), 4);
        due("y", d.at(3, 1), -5);
        due("z", d.at(3, 2), 6);
        due("others", d.at(4, 0), 0);
        due("letter", d.at(10, 0), -100);
        due("letter", d.at(-1, 0), -100);
        due("what", d.at(0, 3), -100);
        due("what", d.at(0, -1), -100);
    }

    private static void worth() {
        BracketDesk d = new BracketDesk();
        d.place(0, 99, 99, -99);
        d.place(1, 99, -99, 99);
        d.place(2, -99, 99, 99);
        due("the greatest", d.worth(0, 1, 2), -3881196);
        due("turned", d.worth(1, 0, 2), 3881196);
        due("two are one", d.worth(1, 1, 2), 0);
        d.place(3, 1, 2, 3);
        d.place(4, 4, 5, 6);
        d.place(5, 7, 8, 10);
        due("rows", d.worth(3, 4, 5), -3);
        due("letter", d.worth(10, 0, 0), NO_INT);
        due("letter", d.worth(0, -1, 0), NO_INT);
        due("letter", d.worth(0, 0, 10), NO_INT);
    }

    private static void value() {
        BracketDesk d = with("3[abc][abc]-2[abd]+7", "");
        due("no places", d.value(0), 7);
        d.place(0, 2, 0, 0);
        d.place(1, 0, 3, 0);
        d.place(2, 0, 0, 5);
        d.place(3, 1, 1, -1);
        due("value", d.value(0), 3 * 900 + 12 + 7);
        due("0", d.value(1), 0);
        due("shelf", d.value(6), NO_LONG);
        due("shelf", d.value(-1), NO_LONG);
        valueAtTheEdges();
    }

    private static void valueAtTheEdges() {
        BracketDesk d = with("[abc][abc][abc]");
        d.place(0, 64, 0, 0);
        d.place(1, 0, 64, 0);
        d.place(2, 0, 0, 64);
        due("2^54", d.value(0), 1L << 54);
        tell(d, 1, "511");
        d.times(0, 0, 1);
        due("511 * 2^54", d.value(0), 511L << 54);
        tell(d, 1, "512[abc][abc][abc]");
        due("2^63 is none", d.value(1), NO_LONG);
        tell(d, 1, "-512[abc][abc][abc]");
        due("-2^63 is that", d.value(1), NO_LONG);
        tell(d, 1, "[abd]-512[abc][abc][abc]");
        d.place(3, 0, 0, 1);
        due("back from -2^63, which is put first", d.value(1), Long.MIN_VALUE + 4096L);
        tell(d, 1, "-[abd]-512[abc][abc][abc]");
        due("beyond -2^63", d.value(1), NO_LONG);
        due("worth of [abd]", d.worth(0, 1, 3), 4096);
        tell(d, 1, "-512[abc][abc][abc]+[abd][abd]");
        due("in order", d.value(1), Long.MIN_VALUE + 4096L * 4096L);
        tell(d, 1, "512[abc][abc][abc]-[def]");
        due("as one is none", d.value(1), NO_LONG);
        tell(d, 1, "512[abc][abc][abc][hij]");
        due("0 comes too late", d.value(1), NO_LONG);
        tell(d, 1, "512[abc][abc][abc]-512[abc][abc][abd]");
        due("the sum would be none", d.value(1), NO_LONG);
        tell(d, 1, "500[abc][abc][abc]+500[abc][abc][abc][abe]");
        d.place(4, 0, 0, 0);
        due("0 in time", d.value(1), 500L << 54);
        d.place(3, 1, 0, 0);
        d.place(4, 0, 1, 0);
        d.place(5, 0, 0, -1);
        d.place(6, 0, 1, 0);
        d.place(7, 0, 0, 1);
        tell(d, 1, "-511[abc][abc][abc][def]+[dgh]");
        due("times -1", d.value(1), (511L << 54) + 1);
        tell(d, 1, "-512[abc][abc][abc][def]+[dgh]");
        due("-2^63 times -1 is none", d.value(1), NO_LONG);
    }

    private static void undo() {
        BracketDesk d = new BracketDesk();
        due("none", d.undo(1), -3);
        for (int i = 1; i <= 12; i++) {
            tell(d, 0, Integer.toString(i));
        }
        due("ten at most", d.count(4), 10);
        due("0", d.undo(0), -3);
        due("11", d.undo(11), -3);
        due("three", d.undo(3), 7);
        due("three", show(d, 0), "+9");
        due("more than can be", d.undo(8), -3);
        due("all", d.undo(7), 0);
        due("all", show(d, 0), "+2");
        due("none", d.undo(1), -3);
        undoneEach();
    }

    private static void undoneEach() {
        BracketDesk d = with("[abe][acd]");
        d.fact(0, 1, 2, 0);
        d.place(0, 1, 2, 3);
        d.clear(0);
        d.clear(0);
        feedText(d, "[abc");
        due("a fault isn't undone", d.told(0, 4), -31);
        due("refused ones aren't", d.count(4), 5);
        feedText(d, "[abc]");
        due("one by one", d.undo(1), 4);
        due("the tape stays", d.count(3), 20);
        due("the fault stays", d.fault(1), 4);
        due("one by one", d.terms(0), 0);
        due("the shelf", d.undo(1), 3);
        due("the shelf", show(d, 0), "+1[abe][acd]");
        due("the place", d.undo(1), 2);
        due("the place", d.at(0, 2), 0);
        due("the fact", d.known(0, 1, 2), 0);
        due("the fact", d.undo(1), 1);
        due("the fact", d.known(0, 1, 2), 2);
        due("told", d.undo(1), 0);
        due("told", d.terms(0), 0);
        due("the tape is there", d.told(0, 5), 1);
        d.bracket(0, 0, 1, 4);
        d.bracket(1, 0, 2, 3);
        int before = d.count(4);
        d.times(0, 0, 1);
        d.add(1, 0, 1, 0, 0);
        d.put(1, 0, 5, 6);
        d.turn(1, 0, 5, 6);
        d.straight(1, 0);
        d.reduce(1, 0);
        d.copy(2, 0);
        d.exchange(3, 14, 23, 3);
        due("eight more, ten at most", d.count(4), Math.min(10, before + 8));
        due("figures too", tellFigure(d, 3, "abc"), 1);
        due("figures too", d.undo(1), 9);
        due("figures too", d.terms(3), 3);
        due("all of the ten", d.undo(9), 0);
        due("all of the ten", show(d, 0) + show(d, 1), "+1[abe]");
        due("no more", d.undo(1), -3);
    }

    private static void image() {
        BracketDesk d = with("[abc]");
        due("made", d.image(0), 0);
        due("made", d.image(1), 0);
        due("undone can be what could", d.count(4), 1);
        due("no image", d.image(2), -2);
        due("no image", d.image(-1), -2);
        tell(d, 0, "5");
        due("made anew", d.image(1), 0);
        d.clear(0);
        due("the one", d.restore(0), 0);
        due("the one", show(d, 0), "+1[abc]");
        due("the other", d.restore(1), 0);
        due("the other", show(d, 0), "+5");
    }

    private static void restore() {
        BracketDesk d = with("[abc]");
        due("none was made", d.restore(0), -6);
        due("no image", d.restore(2), -2);
        due("no image", d.restore(-1), -2);
        d.fact(0, 1, 2, 1);
        d.place(1, 4, 5, 6);
        due("made", d.image(1), 0);
        due("the other wasn't", d.restore(0), -6);
        d.clear(0);
        d.fact(0, 1, 2, 0);
        d.place(1, 0, 0, 0);
        tell(d, 1, "[abc");
        feedText(d, "[abd]");
        due("restored", d.restore(1), 0);
        due("shelf", show(d, 0), "+1[abc]");
        due("fact", d.known(0, 1, 2), 1);
        due("place", d.at(1, 2), 6);
        due("the tape stays", d.count(3), 20);
        due("the fault stays", d.fault(1), 4);
        due("nothing can be undone", d.count(4), 0);
        due("nothing can be undone", d.undo(1), -3);
        d.clear(0);
        due("what comes then can", d.undo(1), 0);
        due("what comes then can", show(d, 0), "+1[abc]");
        due("once more", d.restore(1), 0);
    }

    private static void count() {
        BracketDesk d = with("[abc]+[abd]", "3");
        due("terms", d.count(0), 3);
        d.fact(0, 1, 2, 0);
        d.fact(0, 1, 3, 1);
        d.fact(0, 1, 4, 1);
        d.fact(0, 1, 5, 2);
        due("that are 0", d.count(1), 1);
        due("that aren't 0", d.count(2), 2);
        d.feed(0, 0, 0, 0, 0);
        due("bytes", d.count(3), 20);
        due("undone", d.count(4), 6);
        due("worth 0", d.count(5), 120);
        for (int i = 0; i < 10; i++) {
            d.place(i, 1, i, i * i);
        }
        due("no three in a line", d.count(5), 0);
        d.place(9, 1, 0, 0);
        due("two are one", d.count(5), 8);
        due("others", d.count(6), NONE);
        due("others", d.count(-1), NONE);
    }
}
