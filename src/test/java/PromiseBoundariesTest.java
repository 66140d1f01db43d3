/**
 * The boundary cases that the sections 'Promise 1' to 'Promise 37' name, with a run of calls on either side of each:
 * first the ends of each argument of each call, then the sentences of each promise.
 */
public final class PromiseBoundariesTest {
    private static final String MAX = "2147483647";
    private static final String MIN = "-2147483648";
    private static final String NO_LONG = "-9223372036854775808";

    public static void main(String[] args) {
        endsOfShelves();
        endsOfLetters();
        endsOfNumbers();
        endsOfWhatIsAsked();
        newObject();
        tape();
        texts();
        faultAndWhy();
        shelves();
        shelvesThatWereFull();
        sums();
        products();
        renamed();
        straightened();
        factsAndPlaces();
        askedOfTerms();
        askedOfForms();
        ranks();
        factors();
        finalOnes();
        values();
        back();
        counts();
        theLastCall();
        if (!Script.isFine()) {
            System.exit(1);
        }
    }

    // ---- the ends of each argument

    /** A desk that has a term on each shelf, one call undone, both images, and twenty bytes that are a text. */
    private static Script filled(String sentence) {
        return new Script(sentence).rows("tell(0, [abc]) = 1", "tell(1, [abc]+[abd]) = 2", "tell(2, [abe][acd]) = 1",
                "tell(3, 3) = 1", "tell(4, [abc][def]) = 1", "tell(5, [hij]) = 1", "image(0) = 0", "image(1) = 0",
                "load([abc][abd][abe][abf]) = 20");
    }

    /** What a call answers at and beyond both ends of one argument, written % in it. */
    private static void ends(String call, int low, int high, String atLow, String atHigh, String beyond) {
        String sentence = "the ends " + low + " to " + high + " of " + call;
        filled(sentence).rows(call.replace("%", "" + low) + " = " + atLow);
        filled(sentence).rows(call.replace("%", "" + high) + " = " + atHigh);
        int[] outside = { low - 1, high + 1, Integer.MIN_VALUE, Integer.MAX_VALUE };
        for (int x : outside) {
            filled(sentence).refused(call.replace("%", "" + x) + " = " + beyond);
        }
    }

    /** '-2: the SHELF', 'SHELVES 0 to 5', of each call. */
    private static void endsOfShelves() {
        ends("told(%, 20)", 0, 5, "1", "1", "-2");
        ends("told(%, 0)", 0, 5, "0", "0", "-2");
        ends("figure(%, 0)", 0, 5, "-31", "-31", "-2");
        ends("clear(%)", 0, 5, "1", "1", "-2");
        ends("copy(%, 1)", 0, 5, "2", "2", "-2");
        ends("copy(3, %)", 0, 5, "1", "1", "-2");
        ends("bracket(%, 0, 1, 2)", 0, 5, "1", "1", "-2");
        ends("exchange(%, 123, 456, 1)", 0, 5, "4", "4", "-2");
        ends("add(%, 1, 1, 1, 1)", 0, 5, "2", "2", "-2");
        ends("add(1, %, 1, 1, 1)", 0, 5, "2", "3", "-2");
        ends("add(1, 1, 1, %, 1)", 0, 5, "2", "3", "-2");
        ends("times(%, 1, 1)", 0, 5, "3", "3", "-2");
        ends("times(1, %, 1)", 0, 5, "2", "2", "-2");
        ends("times(1, 1, %)", 0, 5, "2", "2", "-2");
        ends("put(%, 1, 3, 2)", 0, 5, "1", "1", "-2");
        ends("put(1, %, 3, 2)", 0, 5, "1", "1", "-2");
        ends("turn(%, 1, 3, 2)", 0, 5, "2", "2", "-2");
        ends("turn(1, %, 3, 2)", 0, 5, "1", "1", "-2");
        ends("straight(%, 2)", 0, 5, "2", "2", "-2");
        ends("straight(2, %)", 0, 5, "1", "1", "-2");
        ends("reduce(%, 1)", 0, 5, "2", "2", "-2");
        ends("reduce(1, %)", 0, 5, "1", "1", "-2");
        ends("terms(%)", 0, 5, "1", "1", "-2");
        ends("term(%, 0, 0)", 0, 5, "1", "1", MIN);
        ends("degree(%, 0)", 0, 5, "1", "0", "-2");
        ends("steps(%)", 0, 5, "0", "0", "-2");
        ends("left(%)", 0, 5, "1", "1", "-2");
        ends("equal(%, 0)", 0, 5, "1", "0", "-2");
        ends("equal(5, %)", 0, 5, "0", "1", "-2");
        ends("forms(%)", 0, 5, "1", "1", "-2");
        ends("form(%, 0, 0)", 0, 5, "0", "7", "-2");
        ends("factor(%, 0)", 0, 5, "0", "0", "-2");
        ends("isFinal(%)", 0, 5, "0", "0", "-2");
        ends("value(%)", 0, 5, "0", "0", NO_LONG);
    }

    /** '-2: .. a LETTER', 'LETTERS 0 to 9', of each call. */
    private static void endsOfLetters() {
        ends("bracket(0, %, 1, 2)", 0, 9, "1", "1", "-2");
        ends("bracket(0, 1, %, 2)", 0, 9, "1", "1", "-2");
        ends("bracket(0, 1, 2, %)", 0, 9, "1", "1", "-2");
        ends("put(0, 1, %, 2)", 0, 9, "1", "2", "-2");
        ends("put(0, 1, 3, %)", 0, 9, "1", "2", "-2");
        ends("turn(0, 1, %, 2)", 0, 9, "2", "2", "-2");
        ends("turn(0, 1, 3, %)", 0, 9, "2", "2", "-2");
        ends("fact(%, 1, 2, 0)", 0, 9, "2", "2", "-2");
        ends("fact(1, %, 2, 0)", 0, 9, "2", "2", "-2");
        ends("fact(1, 2, %, 0)", 0, 9, "2", "2", "-2");
        ends("place(%, 1, 2, 3)", 0, 9, "0", "0", "-2");
        ends("degree(1, %)", 0, 9, "1", "0", "-2");
        ends("known(%, 1, 2)", 0, 9, "2", "2", "-2");
        ends("known(1, %, 2)", 0, 9, "2", "2", "-2");
        ends("known(1, 2, %)", 0, 9, "2", "2", "-2");
        ends("at(%, 0)", 0, 9, "0", "0", "-100");
        ends("worth(%, 1, 2)", 0, 9, "0", "0", MIN);
        ends("worth(1, %, 2)", 0, 9, "0", "0", MIN);
        ends("worth(1, 2, %)", 0, 9, "0", "0", MIN);
    }

    /** '-3 a number can't be', of each call. */
    private static void endsOfNumbers() {
        ends("told(0, %)", 0, 20, "0", "1", "-3");
        ends("figure(0, %)", 0, 20, "-31", "-31", "-3");
        ends("exchange(0, %, 345, 1)", 0, 999, "0", "0", "-3");
        ends("exchange(0, 345, %, 1)", 0, 999, "0", "0", "-3");
        ends("exchange(0, 345, 12, %)", 1, 3, "4", "4", "-3");
        ends("add(0, 0, %, 0, 99)", -99, 99, "0", "1", "-3");
        ends("add(0, 0, 99, 0, %)", -99, 99, "0", "1", "-3");
        ends("fact(0, 1, 2, %)", 0, 2, "2", "2", "-3");
        ends("place(0, %, 0, 0)", -99, 99, "0", "0", "-3");
        ends("place(0, 0, %, 0)", -99, 99, "0", "0", "-3");
        ends("place(0, 0, 0, %)", -99, 99, "0", "0", "-3");
        ends("undo(%)", 1, 6, "5", "0", "-3");
        filled("'-3: k, i is below 0', not above").rows("form(0, 0, 2) = 2", "form(0, 0, 3) = -1",
                "form(0, 0, " + MAX + ") = -1", "form(0, 1, 0) = -1", "form(0, " + MAX + ", 0) = -1",
                "form(0, -1, 0) = -3", "form(0, 0, -1) = -3", "form(0, " + MIN + ", 0) = -3",
                "form(0, 0, " + MIN + ") = -3");
    }

    /** 'there is none such', 'NONE for others', of each call. */
    private static void endsOfWhatIsAsked() {
        ends("fault(%)", 0, 1, "0", "-1", "-1");
        ends("term(0, %, 0)", 0, 0, "1", "1", MIN);
        ends("term(1, %, 0)", 0, 1, "1", "1", MIN);
        ends("term(0, 0, %)", 0, 4, "1", "-1", MIN);
        ends("term(0, 0, %)", 10, 21, "0", "-1", MIN);
        ends("rank(%)", 0, 63, "0", "6", "-2");
        ends("factor(4, %)", 0, 6, "0", "0", "-2");
        ends("at(0, %)", 0, 2, "0", "0", "-100");
        ends("image(%)", 0, 1, "0", "0", "-2");
        ends("restore(%)", 0, 1, "0", "0", "-2");
        ends("count(%)", 0, 5, "7", "120", "-1");
        filled("'-2147483648: there is none such, what': between 4 and 10").rows("term(0, 0, 5) = " + MIN,
                "term(0, 0, 6) = " + MIN, "term(0, 0, 7) = " + MIN, "term(0, 0, 8) = " + MIN, "term(0, 0, 9) = " + MIN);
    }

    // ---- promises 1 to 6

    private static void newObject() {
        Script.due("1 'All SHELVES have 0.'", "terms(0) = 0", "terms(1) = 0", "terms(2) = 0", "terms(3) = 0",
                "terms(4) = 0", "terms(5) = 0", "count(0) = 0", "equal(0, 5) = 1", "value(5) = 0");
    }

    private static void tape() {
        Script.due("2 '-4: it would have more than 300.'", "14 x feed(0, 0, 0, 0, 0) = 280",
                "feed(1, 2, 3, 4, 5) = 300", "count(3) = 300", "feed(0, 0, 0, 0, 0) = -4", "count(3) = 300",
                "why() = 0", "feed(0, 0, 0, 0, 0) = -4", "told(0, 301) = -3", "told(0, 300) = -31", "count(3) = 0",
                "feed(0, 0, 0, 0, 0) = 20");
        Script.due("2 'the highest of each int first'", "feed(1533108835, 1560281088, 0, 0, 0) = 20", "told(0, 5) = 1",
                "show(0) = +1[abc]", "feed(-1, -1, -1, -1, -1) = 20", "told(0, 1) = -31", "fault(1) = 0",
                "feed(842150451, -2147483648, 0, 0, 0) = 20", "told(0, 4) = 1", "term(0, 0, 0) = 2223",
                "feed(842150451, -2147483648, 0, 0, 0) = 20", "told(0, 5) = -31", "fault(1) = 4");
        Script.due("2 'Twenty bytes come behind those on THE TAPE'", "load([abc]+[abd]+[abe]+17) = 20",
                "load(+[abf]+[abg]+[abh]+8) = 40", "told(0, 40) = 7",
                "show(0) = +25+1[abc]+1[abd]+1[abe]+1[abf]+1[abg]+1[abh]");
        StringBuilder most = new StringBuilder("[abc]");
        for (int i = 0; i < 49; i++) {
            most.append("-[abc]");
        }
        Script.due("2 to 300 bytes are read", "tell(0, " + most + ") = 1", "show(0) = -48[abc]",
                "tell(0, +" + most + ") = 1", "show(0) = -48[abc]");
    }

    private static void texts() {
        Script.due("3 'The first n bytes of THE TAPE (which is empty then)'", "load([abc]+[abd])", "told(0, 5) = 1",
                "count(3) = 0", "load([abc]+[abd])", "told(0, 11) = 2", "count(3) = 0", "load([abc]+[abd])",
                "told(0, 0) = 0", "count(3) = 0", "terms(0) = 0", "told(0, 1) = -3");
        Script.due("3 '-3: n is below 0, above what there is (THE TAPE stays)'", "told(0, 0) = 0", "told(0, 1) = -3",
                "load([abc]+[abd]-4[abe]-2) = 20", "told(0, 21) = -3", "told(0, -1) = -3", "count(3) = 20",
                "told(0, 20) = 4", "count(3) = 0", "told(0, 20) = -3", "load(1)", "told(0, 2147483647) = -3",
                "told(0, -2147483648) = -3", "told(0, 1) = 1");
        Script.due("4 'Likewise.'", "figure(0, 0) = -31", "figure(0, 1) = -3", "load(abcdef) = 20",
                "figure(0, 21) = -3", "figure(0, -1) = -3", "figure(6, 3) = -2", "count(3) = 20",
                "figure(0, 3) = 1", "count(3) = 0", "show(0) = +1[abc]", "load(abcdef)", "figure(0, 4) = -31",
                "count(3) = 0", "show(0) = +1[abc]");
        Script.due("4 '-4', which changes nothing: THE TAPE stays", "load(((ab^cd)(ef^gh)^(ai^bj)(ce^df))gh) = 40",
                "figure(0, 33) = -4", "why() = 2", "count(3) = 40", "count(4) = 0", "figure(0, 33) = -4",
                "figure(0, 32) = -31", "count(3) = 0");
    }

    private static void faultAndWhy() {
        Script.due("5 'what 0: its FAULT (0), 1: its place (NONE)'", "fault(0) = 0", "fault(1) = -1",
                "tell(0, [abc]) = 1", "fault(0) = 0", "fault(1) = -1", "tell(0, ]) = -31", "fault(0) = 1",
                "fault(1) = 0", "draw(0, abc) = 1", "fault(0) = 0", "fault(1) = -1", "draw(0, ((() = -34",
                "fault(0) = 4", "fault(1) = 2");
        Script.due("5 'Of the latest told(), figure() that read bytes'", "tell(0, 12345) = -32", "told(0, 1) = -3",
                "fault(0) = 2", "told(6, 0) = -2", "fault(0) = 2", "figure(0, 1) = -3", "figure(6, 0) = -2",
                "fault(0) = 2", "fault(1) = 0", "tell(0, [abk]) = -31", "fault(0) = 1", "fault(1) = 3",
                "figure(0, 0) = -31", "fault(0) = 1", "fault(1) = 0", "told(0, 0) = 0", "fault(0) = 0",
                "fault(1) = -1");
        Script.due("6 '1 TERMS'", "many(0, 0, 80) = 80", "tell(1, [hij]) = 1", "add(2, 0, 1, 1, 1) = -4", "why() = 1",
                "add(2, 0, 1, 1, 0) = 80", "why() = 0", "tell(1, 1+[hij]) = 2", "times(2, 0, 1) = -4", "why() = 1",
                "tell(1, [hij]) = 1", "times(2, 0, 1) = 80", "why() = 0");
        String[] calls = { "told(6, 0) = -2", "told(0, 1) = -3", "tell(0, ]) = -31", "told(0, 0) = 0",
            "figure(6, 0) = -2", "figure(0, 1) = -3", "figure(0, 0) = -31", "add(6, 0, 0, 0, 0) = -2",
            "add(0, 0, 100, 0, 0) = -3", "add(0, 0, 0, 0, 0) = 0", "times(6, 0, 0) = -2", "times(0, 5, 5) = 0",
            "put(6, 0, 0, 0) = -2", "put(0, 0, 0, 10) = -2", "put(0, 0, 0, 0) = 1", "turn(6, 0, 0, 0) = -2",
            "turn(0, 0, 0, 0) = 1", "straight(6, 0) = -2", "straight(0, 0) = 1", "steps(6) = -2", "steps(0) = 0",
            "left(6) = -2", "left(0) = 1", "equal(6, 0) = -2", "equal(0, 0) = 1", "rank(64) = -2", "rank(1) = 1",
            "factor(6, 0) = -2", "factor(0, 7) = -2", "factor(0, 0) = 0", "isFinal(6) = -2", "isFinal(0) = 0" };
        for (String call : calls) {
            Script.due("6 '0 if it told neither'", "tell(0, [abc][abc][abc]) = 1", "why() = 0", "times(1, 0, 0) = -4",
                    "why() = 2", call, "why() = 0");
        }
        Script.due("6 'the latest of' these: the others leave it", "tell(0, [abc][abc][abc]) = 1",
                "times(1, 0, 0) = -4", "feed(0, 0, 0, 0, 0)", "fault(0)", "clear(1)", "clear(6)", "copy(1, 0)",
                "bracket(1, 0, 1, 2)", "exchange(1, 0, 0, 4)", "exchange(1, 12, 34, 1)", "reduce(1, 0)",
                "fact(0, 1, 2, 0)", "place(0, 1, 2, 3)", "terms(0)", "term(0, 0, 0)", "degree(0, 0)", "forms(0)",
                "form(0, 0, 0)", "known(0, 1, 2)", "at(0, 0)", "worth(0, 1, 2)", "value(0)", "undo(1)", "image(0)",
                "restore(0)", "restore(1)", "count(0)", "why() = 2", "14 x feed(0, 0, 0, 0, 0) = 300",
                "feed(0, 0, 0, 0, 0) = -4", "why() = 2");
    }

    // ---- promises 7 to 18

    private static void shelves() {
        Script.due("7 'how many TERMS it had'", "clear(0) = 0", "tell(0, 1) = 1", "clear(0) = 1", "clear(0) = 0",
                "many(0, 0, 80) = 80", "clear(0) = 80", "terms(0) = 0");
        Script.due("8 'A SHELF is what another one is'", "copy(1, 0) = 0", "many(0, 0, 80) = 80", "copy(1, 0) = 80",
                "copy(1, 1) = 80", "clear(0) = 80", "terms(1) = 80", "copy(1, 0) = 0", "terms(1) = 0");
        Script.due("9 'how many TERMS (0, 1)'", "bracket(0, 0, 1, 2) = 1", "bracket(0, 2, 1, 0) = 1",
                "show(0) = -1[abc]", "bracket(0, 0, 0, 1) = 0", "terms(0) = 0", "bracket(0, 9, 9, 9) = 0");
        Script.due("10 'two rows of three digits each (LETTERS; 0 to 999)'", "exchange(0, 12, 345, 1) = 4",
                "show(0) = +1[abc][def]-1[abd][cef]+1[acd][bef]-1[aef][bcd]", "exchange(0, 987, 654, 3) = 4",
                "exchange(0, 789, 980, 1) = 0", "exchange(0, 1, 234, 1) = 0", "exchange(0, 0, 123, 3) = 0",
                "exchange(0, 100, 23, 3) = 0", "exchange(0, 10, 23, 1) = 0", "exchange(0, 102, 345, 3) = 4",
                "term(0, 0, 0) = -1", "exchange(0, 198, 765, 1) = 4",
                "show(0) = -1[bfg][hij]+1[bhi][fgj]-1[bhj][fgi]+1[bij][fgh]", "exchange(0, 765, 198, 1) = 4",
                "exchange(0, 201, 345, 1) = 4", "show(0) = +1[abc][def]-1[abd][cef]+1[acd][bef]-1[aef][bcd]",
                "exchange(0, 345, 201, 3) = 4");
    }

    /** What a shelf had once is gone, also where a list inside would still have it. */
    private static void shelvesThatWereFull() {
        Script.due("7, 8 a SHELF that was full is empty", "many(0, 0, 80) = 80", "tell(1, [abe][acd]) = 1",
                "add(1, 1, 1, 0, 1) = -4", "reduce(1, 0) = 80", "clear(0) = 80", "term(0, 0, 0) = " + MIN,
                "term(0, 79, 0) = " + MIN, "degree(0, 0) = -1", "steps(0) = 0", "left(0) = 0", "forms(0) = -1",
                "form(0, 0, 0) = -1", "rank(1) = 0", "factor(0, 0) = 0", "isFinal(0) = 0", "value(0) = 0",
                "reduce(2, 0) = 0", "copy(2, 0) = 0", "times(2, 0, 1) = 0", "add(2, 0, 1, 0, 1) = 0",
                "put(2, 0, 0, 1) = 0", "turn(2, 0, 0, 1) = 0", "straight(2, 0) = 0", "equal(0, 5) = 1",
                "count(0) = 80");
        Script.due("8, 16 a SHELF that was full has one TERM", "many(0, 0, 80) = 80", "tell(0, [abc]) = 1",
                "term(0, 1, 0) = " + MIN, "degree(0, 0) = 1", "degree(0, 2) = 1", "left(0) = 1", "reduce(1, 0) = 1",
                "fact(0, 1, 3, 0) = 2", "reduce(1, 0) = 1", "fact(0, 1, 2, 0) = 2", "reduce(1, 0) = 0", "rank(1) = 1",
                "add(1, 0, 1, 0, 1) = 1", "times(1, 0, 0) = 1", "copy(1, 0) = 1", "show(1) = +1[abc]");
        Script.due("28 a FIGURE that was there", "draw(0, (ab^cd)ef) = 2", "factor(0, 0) = 1", "clear(0) = 2",
                "factor(0, 0) = 0", "factor(0, 1) = 0", "tell(0, [abc]) = 1", "factor(0, 1) = 0");
    }

    private static void sums() {
        Script.due("11 'm times SHELF a and n times SHELF b (-99 to 99 each)'", "tell(0, [abc]) = 1",
                "tell(1, [abd]) = 1", "add(2, 0, 99, 1, -99) = 2", "show(2) = +99[abc]-99[abd]",
                "add(2, 0, -99, 1, 99) = 2", "show(2) = -99[abc]+99[abd]", "add(2, 0, 100, 1, 1) = -3",
                "add(2, 0, 1, 1, -100) = -3", "show(2) = -99[abc]+99[abd]", "add(2, 0, 0, 1, 0) = 0");
        Script.due("11 '-7', 99 times", "tell(0, 9999) = 1", "times(0, 0, 0) = 1", "tell(1, 99) = 1",
                "add(2, 0, 21, 5, 0) = 1", "add(2, 0, 22, 5, 0) = -7", "add(2, 0, -21, 5, 0) = 1",
                "add(2, 0, -22, 5, 0) = -7", "add(2, 5, 0, 0, 22) = -7", "add(2, 5, 0, 0, 21) = 1");
        Script.due("11 'It is ..' SHELF s itself", "tell(0, [abc]) = 1", "add(0, 0, 1, 0, 1) = 1", "show(0) = +2[abc]",
                "add(0, 1, 1, 0, -3) = 1", "show(0) = -6[abc]", "add(0, 0, 5, 0, -5) = 0");
    }

    private static void products() {
        Script.due("12 'SHELF a times SHELF b', 0", "times(0, 0, 0) = 0", "tell(0, [abc][abc][abc][abc]) = 1",
                "times(2, 0, 1) = 0", "times(2, 1, 0) = 0", "times(2, 0, 0) = -4", "why() = 2", "tell(1, 1) = 1",
                "times(2, 0, 1) = 1", "tell(1, [abc]) = 1", "times(2, 0, 1) = -4", "times(0, 1, 1) = 1",
                "times(0, 0, 0) = 1", "show(0) = +1[abc][abc][abc][abc]");
        Script.due("12 '-7'", "most(0) = " + MAX, "least(1) = " + MIN, "times(2, 0, 0) = -7", "times(2, 1, 1) = -7",
                "times(2, 0, 1) = -7", "tell(3, -1) = 1", "times(2, 0, 3) = 1", "term(2, 0, 0) = -2147483647",
                "times(2, 1, 3) = -7", "why() = 4", "tell(3, 1) = 1", "times(2, 1, 3) = 1", "term(2, 0, 0) = " + MIN);
        Script.due("12 '-7', the NUMBER of both together", "most(0) = " + MAX, "tell(1, [abc]) = 1",
                "add(0, 0, 1, 1, 1) = 2", "tell(1, -1+[abc]) = 2", "times(2, 0, 1) = 3",
                "show(2) = -2147483647+2147483646[abc]+1[abc][abc]", "tell(1, 1+[abc]) = 2", "times(2, 0, 1) = -7",
                "why() = 4");
    }

    private static void renamed() {
        Script.due("13 'LETTER q wherever p was', p is q, p isn't there", "tell(0, [abc][abd]-7) = 2",
                "put(1, 0, 0, 0) = 2", "show(1) = -7+1[abc][abd]", "put(1, 0, 9, 0) = 2",
                "show(1) = -7+1[abc][abd]", "put(1, 0, 0, 9) = 2", "show(1) = -7+1[bcj][bdj]",
                "put(1, 0, 0, 1) = 1", "show(1) = -7", "put(1, 5, 0, 1) = 0");
        Script.due("13 '-7', of one TERM", "least(0, [abc]) = " + MIN, "put(1, 0, 0, 9) = 1", "term(1, 0, 0) = " + MIN,
                "put(1, 0, 1, 9) = -7", "why() = 4", "put(1, 0, 2, 9) = 1", "put(1, 0, 1, 2) = 0",
                "most(0, [abc]) = " + MAX, "put(1, 0, 1, 9) = 1", "term(1, 0, 0) = -2147483647");
        Script.due("13 '-7', of both together", "most(0, [abc][abc]) = " + MAX, "tell(1, [abc][abd]-[abd][abd]) = 2",
                "add(2, 0, 1, 1, 1) = 3", "put(3, 2, 3, 2) = -7", "why() = 4", "add(2, 0, 1, 1, -1) = 3",
                "put(3, 2, 3, 2) = 1", "term(3, 0, 0) = " + MAX, "tell(1, -[abc][abd]) = 1", "add(2, 0, -1, 1, 1) = 2",
                "put(3, 2, 3, 2) = 1", "term(3, 0, 0) = " + MIN, "add(2, 0, -1, 1, 2) = 2", "put(3, 2, 3, 2) = -7");
        Script.due("13 80 TERMS", "many(0, 0, 80) = 80", "put(1, 0, 9, 8) = 62", "put(1, 0, 0, 0) = 80");
        Script.due("14 'LETTERS p and q in each other's place', one is the other, neither is there",
                "tell(0, [abc][abd]-7) = 2", "turn(1, 0, 0, 0) = 2", "show(1) = -7+1[abc][abd]",
                "turn(1, 0, 8, 9) = 2", "show(1) = -7+1[abc][abd]", "turn(1, 0, 2, 3) = 2",
                "show(1) = -7+1[abc][abd]", "turn(1, 0, 0, 1) = 2", "show(1) = -7+1[abc][abd]",
                "turn(1, 0, 0, 2) = 2", "show(1) = -7+1[abc][bcd]", "turn(1, 5, 0, 1) = 0", "many(0, 0, 80) = 80",
                "turn(1, 0, 0, 9) = 80");
        Script.due("14 '-7'", "least(0, [abc]) = " + MIN, "turn(1, 0, 0, 1) = -7", "why() = 4", "turn(1, 0, 1, 0) = -7",
                "turn(1, 0, 3, 4) = 1",
                "term(1, 0, 0) = " + MIN, "least(0, [abc][abd]) = " + MIN, "turn(1, 0, 0, 1) = 1",
                "term(1, 0, 0) = " + MIN, "turn(1, 0, 1, 2) = -7",
                "most(0, [abc]) = " + MAX, "turn(1, 0, 0, 1) = 1", "term(1, 0, 0) = -2147483647");
    }

    private static void straightened() {
        Script.due("15 'STRAIGHT of SHELF a', nothing, SHELF s itself", "straight(0, 0) = 0", "tell(0, [abe][acd]) = 1",
                "straight(0, 0) = 2", "show(0) = -1[abc][ade]+1[abd][ace]", "straight(0, 0) = 2",
                "tell(0, [abe][acd]-[abd][ace]+[abc][ade]) = 3", "straight(0, 0) = 0", "terms(0) = 0");
        Script.due("22 'How many STEPS STRAIGHTENING of a SHELF takes'", "steps(0) = 0", "tell(0, [abe][acd]) = 1",
                "steps(0) = 1", "tell(0, [abe][acd]+[abf][acd]) = 2", "steps(0) = 2", "terms(0) = 2",
                "straight(0, 0) = 4", "steps(0) = 0");
        Script.due("23 '(0: it is 0 for all points)'", "left(0) = 0", "exchange(0, 345, 12, 1) = 4", "left(0) = 0",
                "tell(1, [abc][def]) = 1", "add(0, 0, 1, 1, 1)", "left(0) = 1", "tell(0, 1) = 1", "left(0) = 1");
        Script.due("24 '1 if two SHELVES are EQUAL, else 0'", "equal(0, 1) = 1", "tell(0, [abe][acd]) = 1",
                "equal(0, 1) = 0", "equal(1, 0) = 0", "equal(0, 0) = 1", "tell(1, [abd][ace]-[abc][ade]) = 2",
                "equal(0, 1) = 1", "equal(1, 0) = 1", "tell(1, [abd][ace]-2[abc][ade]) = 2", "equal(0, 1) = 0",
                "tell(1, [abd][ace]) = 1", "equal(0, 1) = 0", "tell(1, [abd][ace]-[abc][adf]) = 2", "equal(0, 1) = 0",
                "tell(1, -[abd][ace]+[abc][ade]) = 2", "equal(0, 1) = 0");
        Script.due("15, 22 to 24, 27 to 29 '-7'", "least(0, [aef][bcd]) = " + MIN, "straight(1, 0) = -7", "why() = 4",
                "told(1, 0)", "steps(0) = -7", "why() = 4", "told(1, 0)", "left(0) = -7", "why() = 4", "told(1, 0)",
                "equal(0, 1) = -7", "why() = 4", "told(1, 0)", "equal(1, 0) = -7", "why() = 4", "told(1, 0)",
                "rank(1) = -7", "why() = 4", "told(1, 0)", "factor(0, 0) = -7", "why() = 4", "told(1, 0)",
                "isFinal(0) = -7", "why() = 4");
        Script.due("15, 22 to 24, 27 to 29 '-4', an 81st TERM", "many(0, 8, 78) = 78",
                "tell(1, [abc][def]+[abe][acd]) = 2", "add(0, 0, 1, 1, 1) = 80", "straight(1, 0) = -4", "why() = 1",
                "told(1, 0)", "steps(0) = -4", "why() = 1", "told(1, 0)", "left(0) = -4", "why() = 1", "told(1, 0)",
                "equal(0, 1) = -4", "why() = 1", "told(1, 0)", "equal(1, 0) = -4", "why() = 1", "told(1, 0)",
                "rank(1) = -4", "why() = 1", "told(1, 0)", "factor(0, 0) = -4", "why() = 1", "told(1, 0)",
                "isFinal(0) = -4", "why() = 1", "tell(1, [acd]) = 1", "add(0, 0, 1, 1, -1) = 79", "left(0) = 80",
                "factor(0, 0) = 0", "rank(1) = 1", "why() = 0");
    }

    private static void factsAndPlaces() {
        Script.due("17 'what was told of it'", "fact(0, 1, 2, 2) = 2", "fact(0, 1, 2, 0) = 2", "fact(0, 1, 2, 0) = 0",
                "fact(0, 1, 2, 1) = 0", "fact(0, 1, 2, 1) = 1", "fact(0, 1, 2, 2) = 1", "fact(0, 1, 2, 2) = 2",
                "count(1) = 0", "count(2) = 0");
        Script.due("17 '(whatever the order of its LETTERS)'", "fact(0, 1, 2, 0) = 2", "fact(0, 2, 1, 1) = 0",
                "fact(1, 0, 2, 0) = 1", "fact(1, 2, 0, 1) = 0", "fact(2, 0, 1, 0) = 1", "fact(2, 1, 0, 1) = 0",
                "count(1) = 0", "count(2) = 1");
        Script.due("17 '-3: v, two LETTERS are one'", "fact(0, 0, 1, 0) = -3", "fact(0, 1, 0, 0) = -3",
                "fact(1, 0, 0, 0) = -3", "fact(0, 0, 0, 0) = -3", "fact(0, 1, 2, 3) = -3", "fact(0, 1, 2, -1) = -3",
                "count(1) = 0", "count(4) = 0", "fact(0, 1, 2, 0) = 2");
        Script.due("30 '-3: two LETTERS are one'", "known(0, 0, 1) = -3", "known(0, 1, 0) = -3", "known(1, 0, 0) = -3",
                "known(9, 9, 9) = -3", "known(7, 8, 9) = 2");
        Script script = new Script("17, 30 each of the 120 BRACKETS has a FACT of its own");
        int number = 0;
        for (int a = 0; a < 10; a++) {
            for (int b = a + 1; b < 10; b++) {
                for (int c = b + 1; c < 10; c++) {
                    number++;
                    String letters = "(" + a + ", " + b + ", " + c;
                    script.rows("known" + letters + ") = 2", "fact" + letters + ", 0) = 2",
                            "fact" + letters + ", 1) = 0", "count(2) = " + number);
                }
            }
        }
        script.rows("count(1) = 0", "count(2) = 120", "fact(0, 1, 2, 0) = 1", "fact(7, 8, 9, 0) = 1", "count(1) = 2",
                "count(2) = 118", "known(0, 1, 3) = 1", "known(6, 8, 9) = 1");
        Script.due("18 'PLACES of a LETTER: 0'", "place(0, 1, 2, 3) = 0", "place(9, 4, 5, 6) = 0", "at(0, 0) = 1",
                "at(0, 1) = 2", "at(0, 2) = 3", "at(9, 0) = 4", "at(9, 1) = 5", "at(9, 2) = 6", "at(1, 0) = 0",
                "at(8, 2) = 0", "place(0, 0, 0, 0) = 0", "at(0, 2) = 0");
    }

    // ---- promises 19 to 33

    private static void askedOfTerms() {
        Script.due("20 'LETTERS, one by one (NONE: not so many)'",
                "tell(0, 5+[abc]+[abd][abe][abf]+[bhi][cdj][def][hij]) = 4", "term(0, 0, 10) = -1",
                "term(0, 0, 21) = -1", "term(0, 1, 12) = 2", "term(0, 1, 13) = -1", "term(0, 2, 18) = 5",
                "term(0, 2, 19) = -1", "term(0, 3, 21) = 9", "term(0, 3, 19) = 7",
                "term(0, 3, 22) = " + MIN, "term(0, 4, 10) = " + MIN);
        Script.due("20 'how many BRACKETS'", "tell(0, 5+[abc]+[abd][abe]+[abe][abe][abf]+[bhi][cdj][def][hij]) = 5",
                "term(0, 0, 1) = 0", "term(0, 1, 1) = 1", "term(0, 2, 1) = 2", "term(0, 3, 1) = 3",
                "term(0, 4, 1) = 4");
        Script.due("20 '(NONE: it is STANDARD)'", "tell(0, [abd][acd]+[abe][acd]) = 2", "term(0, 0, 2) = 1",
                "term(0, 0, 3) = -1", "term(0, 0, 4) = -1", "term(0, 1, 2) = 0", "term(0, 1, 3) = 0",
                "term(0, 1, 4) = 3");
        Script.due("20 '-2147483648', or the NUMBER is that", "least(0, [abc]) = " + MIN, "term(0, 0, 0) = " + MIN,
                "term(0, 0, 1) = 1", "many(0, 0, 80) = 80", "term(0, 79, 0) = 1", "term(0, 80, 0) = " + MIN,
                "term(0, 79, 10) = 2", "term(0, -1, 0) = " + MIN, "term(1, 0, 0) = " + MIN);
        Script.due("21 'NONE: there are none, or not in each as often'", "degree(0, 0) = -1", "tell(0, 1) = 1",
                "degree(0, 0) = 0", "tell(0, [abc][abd][abe][abf]) = 1", "degree(0, 0) = 4", "degree(0, 5) = 1",
                "degree(0, 6) = 0", "tell(0, [abc]+[abd]) = 2", "degree(0, 0) = 1", "degree(0, 2) = -1",
                "degree(0, 3) = -1", "degree(0, 4) = 0", "tell(0, [abc]+[abd]+[abd][abe]) = 3", "degree(0, 0) = -1",
                "tell(0, 1+[abc]) = 2", "degree(0, 0) = -1", "degree(0, 9) = 0");
        Script.due("31 '-100: there is none such, what'", "place(9, -99, 99, 1) = 0", "at(9, 0) = -99", "at(9, 1) = 99",
                "at(9, 2) = 1", "at(9, 3) = -100", "at(9, -1) = -100", "at(10, 0) = -100", "at(-1, 0) = -100");
    }

    private static void askedOfForms() {
        Script.due("25 'of the first TERM', 'NONE: it has none'", "forms(0) = -1", "tell(0, 3) = 1", "forms(0) = 1",
                "tell(0, [abc][def]+1) = 2", "forms(0) = 1", "tell(0, [abc][def]+[abd]) = 2", "forms(0) = 5",
                "tell(0, [abc][def][ghi]) = 1", "forms(0) = 42", "clear(0) = 1", "forms(0) = -1");
        Script.due("26 'NONE: not so many of either, no TERMS'", "form(0, 0, 0) = -1", "tell(0, 3) = 1",
                "form(0, 0, 0) = -1", "tell(0, [aef][bcd]) = 1", "form(0, 4, 5) = 5", "form(0, 4, 6) = -1",
                "form(0, 5, 5) = -1", "form(0, 0, 0) = 0", "form(0, -1, 0) = -3", "form(0, 0, -1) = -3",
                "form(0, 5, 6) = -1");
        Script.due("26 'in the order of TERMS'", "tell(0, [aef][bcd]) = 1", "form(0, 0, 2) = 2", "form(0, 1, 2) = 3",
                "form(0, 2, 2) = 4", "form(0, 3, 1) = 2", "form(0, 3, 2) = 3", "form(0, 4, 2) = 4",
                "tell(0, [abc][def][ghi][abj]) = 1", "form(0, 0, 2) = 2", "form(0, 0, 5) = 3", "form(0, 139, 1) = 2",
                "form(0, 139, 2) = 6", "form(0, 139, 4) = 3", "form(0, 139, 5) = 7", "form(0, 139, 10) = 5");
    }

    private static void ranks() {
        Script.due("27 'How many of some SHELVES (bits, 0 to 63)'", "rank(0) = 0", "rank(63) = 0", "tell(5, [abc]) = 1",
                "rank(32) = 1", "rank(31) = 0", "tell(0, [abd]) = 1", "rank(33) = 2", "rank(1) = 1",
                "tell(1, [abe]) = 1", "tell(2, [abf]) = 1", "tell(3, [abg]) = 1", "tell(4, 1) = 1", "rank(63) = 6",
                "rank(64) = -2", "rank(-1) = -2", "rank(62) = 5");
        Script.due("27 'independent of one another, STRAIGHT of each being taken'", "tell(0, [abe][acd]) = 1",
                "tell(1, [abd][ace]) = 1", "tell(2, [abc][ade]) = 1", "rank(7) = 2", "rank(3) = 2", "rank(5) = 2",
                "rank(6) = 2", "exchange(3, 14, 23, 3) = 3", "rank(8) = 0", "rank(15) = 2", "copy(3, 0) = 1",
                "rank(9) = 1");
        Script.due("27 'How many of some SHELVES', all of them full", "many(0, 1, 80) = 80", "tell(5, [abc]) = 1",
                "times(1, 0, 5) = 80", "times(2, 1, 5) = 80", "times(3, 2, 5) = 80", "many(4, 81, 39) = 39",
                "tell(5, 1+[abc]) = 2", "times(4, 4, 5) = 78", "tell(5, [abc]) = 1", "rank(63) = 6", "copy(5, 3) = 80",
                "rank(63) = 5", "tell(5, 1) = 1", "rank(63) = 6", "tell(5, [hij][hij]) = 1", "rank(63) = 6",
                "tell(0, [hij][hij][hij]) = 1", "rank(1) = 1", "rank(33) = 2", "rank(63) = 6", "many(0, 8, 80) = 80",
                "tell(5, [abd]) = 1", "times(0, 0, 5) = 80", "rank(1) = 1", "times(1, 0, 5) = 80", "rank(3) = 2",
                "tell(5, [abe][abf]) = 1", "rank(32) = 1", "rank(63) = 6");
        Script.due("27 'How many of some SHELVES', what was asked before counts no more",
                "tell(0, [abc]+[abd]+[abe]) = 3", "tell(1, [abc]+2[abd]+3[abe]) = 3",
                "tell(2, [abc]+4[abd]+9[abe]) = 3", "rank(7) = 3", "tell(0, [abc]) = 1", "tell(1, [abc]) = 1",
                "tell(2, [abd]+[abe]) = 2", "rank(7) = 2", "rank(3) = 1", "rank(6) = 2", "clear(2) = 2", "rank(7) = 1");
        Script.due("27 'all NUMBERS modulo 1000003'", "tell(0, 1000) = 1", "times(0, 0, 0) = 1", "tell(1, 3) = 1",
                "add(1, 0, 1, 1, 1) = 1", "term(1, 0, 0) = 1000003", "rank(2) = 0", "tell(2, 1) = 1",
                "add(3, 1, 1, 2, 1) = 1", "rank(8) = 1", "add(3, 1, 1, 2, -1) = 1", "rank(8) = 1",
                "add(3, 1, -1, 2, 0) = 1", "rank(8) = 0", "add(3, 1, 99, 2, 0) = 1", "rank(8) = 0",
                "add(3, 1, 99, 2, 1) = 1", "rank(8) = 1");
        Script.due("27 'modulo', of more than one of them", "tell(0, 1000) = 1", "times(0, 0, 0) = 1", "tell(1, 3) = 1",
                "add(0, 0, 1, 1, 1) = 1", "tell(1, [abc]) = 1", "times(0, 0, 1) = 1", "tell(1, 2[abd]+[abc]) = 2",
                "add(2, 0, 1, 1, 1) = 2", "rank(6) = 1", "add(2, 0, -5, 1, 7) = 2", "rank(6) = 1", "tell(3, [abc]) = 1",
                "add(2, 2, 1, 3, 1) = 2", "rank(6) = 2", "rank(15) = 2");
        Script.due("27 'modulo', the greatest NUMBERS", "most(0, [abc]) = " + MAX, "most(1, [abd]) = " + MAX,
                "least(2, [abc]) = " + MIN, "rank(7) = 2", "add(3, 0, 1, 1, 1) = 2", "least(4, [abd]) = " + MIN,
                "add(4, 2, 1, 4, 1) = 2", "rank(24) = 1", "rank(28) = 2");
    }

    private static void factors() {
        Script.due("28 '0 (of all what): there is none'", "tell(0, [abc][def]) = 1", "factor(0, 0) = 0",
                "factor(0, 1) = 0", "factor(0, 6) = 0", "tell(0, [abc][def]+[abd][cef]) = 2", "factor(0, 0) = 0",
                "tell(0, [acd][bef]-[aef][bcd]) = 2", "factor(0, 0) = 1", "tell(0, [acd][bef]-2[aef][bcd]) = 2",
                "factor(0, 0) = 0", "factor(0, 6) = 0");
        Script.due("28 'or its first TERM isn't so'", "factor(0, 0) = 0", "factor(0, 6) = 0", "tell(0, 7) = 1",
                "factor(0, 0) = 0", "tell(0, [abc]) = 1", "factor(0, 0) = 0", "tell(0, [abc][abd]) = 1",
                "factor(0, 0) = 0", "tell(0, [abc][cde]-[acd][bce]) = 2", "factor(0, 0) = 0",
                "tell(0, [abc][def][ghi]) = 1", "factor(0, 0) = 0", "draw(0, (ab^cd)ef) = 2", "factor(0, 0) = 1",
                "tell(1, 1) = 1", "add(0, 0, 1, 1, 1) = 3", "factor(0, 0) = 0", "draw(0, (ab^cd)ac) = 1",
                "factor(0, 0) = 0");
        Script.due("28 '(asked ahead of STRAIGHTENING)'", "least(0, [aef][bcd]) = " + MIN, "factor(0, 0) = -7",
                "why() = 4", "tell(1, [abc]) = 1", "add(0, 0, 1, 1, 1) = 2", "factor(0, 0) = 0", "why() = 0",
                "left(0) = -7", "tell(1, [hij]) = 1", "least(0, [aef][bcd]) = " + MIN, "add(0, 0, 1, 1, 1) = 2",
                "factor(0, 0) = -7");
        Script.due("28 'or it is EQUAL to 0'", "exchange(0, 345, 12, 1) = 4", "factor(0, 0) = 0", "factor(0, 1) = 0",
                "draw(1, (ab^cd)ef) = 2", "add(2, 0, 1, 1, 1)", "factor(2, 0) = 1", "factor(2, 6) = 6");
        Script.due("28 'of six unlike LETTERS (those of its first TERM ..)', others that go", "draw(0, (ab^cd)ef) = 2",
                "tell(1, [bcf][bde]-[bce][bdf]+[bcd][bef]) = 3", "left(1) = 0", "add(2, 0, 1, 1, 1) = 5",
                "factor(2, 0) = 1", "tell(1, [bcf][bde]) = 1", "add(2, 0, 1, 1, 1) = 3", "factor(2, 0) = 0");
        Script.due("28 'the first row of LETTERS'", "draw(0, (fe^dc)ba) = 2", "factor(0, 0) = 1", "factor(0, 1) = 1",
                "factor(0, 2) = 2", "factor(0, 3) = 3", "factor(0, 4) = 4", "factor(0, 5) = 5", "factor(0, 6) = 6",
                "draw(0, (af^be)cd) = 2", "factor(0, 0) = 1", "factor(0, 1) = 1", "factor(0, 2) = 6",
                "factor(0, 3) = 2", "factor(0, 4) = 5", "factor(0, 5) = 3", "factor(0, 6) = 4",
                "draw(0, (ei^fj)gh) = 2", "factor(0, 1) = 5", "factor(0, 2) = 9", "factor(0, 4) = 10",
                "factor(0, 7) = -2", "factor(0, -1) = -2");
        eachFigure();
        Script.due("28 'm an int, not 0', the greatest and the least", "draw(0, (ab^cd)ef) = 2", "straight(0, 0)",
                "most(1) = " + MAX, "times(2, 0, 1)", "factor(2, 0) = " + MAX, "factor(2, 6) = 6",
                "add(3, 2, -1, 4, 0)", "factor(3, 0) = -2147483647", "draw(0, (ab^ce)df) = 2", "straight(0, 0) = 2",
                "least(1) = " + MIN, "times(2, 0, 1) = 2", "factor(2, 0) = " + MIN, "factor(2, 3) = 3",
                "factor(2, 4) = 5");
    }

    /** The 15 ways to have three lines of six letters: the first row of each, of what is -1, 2 and -2 times it, too. */
    private static void eachFigure() {
        String[] rows = { "abcdef", "abcedf", "abcfde", "acbdef", "acbedf", "acbfde", "adbcef", "adbecf", "adbfce",
            "aebcdf", "aebdcf", "aebfcd", "afbcde", "afbdce", "afbecd" };
        for (String r : rows) {
            String pair = r.substring(2, 4);
            Script script = new Script("28 'the first row of LETTERS', of " + r).rows(
                    "draw(0, (" + r.substring(0, 2) + "^" + pair + ")" + r.substring(4) + ") = 2", "factor(0, 0) = 1",
                    "draw(1, (" + pair + "^" + r.substring(0, 2) + ")" + r.substring(4) + ") = 2", "factor(1, 0) = -1",
                    "add(2, 0, 2, 1, 0) = 2", "factor(2, 0) = 2", "add(3, 0, 1, 1, 3)", "factor(3, 0) = -2");
            for (int what = 1; what <= 6; what++) {
                int letter = r.charAt(what - 1) - 'a' + 1;
                for (int s = 0; s < 4; s++) {
                    script.rows("factor(" + s + ", " + what + ") = " + letter);
                }
            }
        }
    }

    private static void finalOnes() {
        Script.due("29 '1 if a SHELF is FINAL, else 0'", "isFinal(0) = 0", "tell(0, [abc]) = 1", "fact(0, 1, 2, 1) = 2",
                "isFinal(0) = 0", "exchange(0, 14, 23, 3) = 3", "isFinal(0) = 0", "fact(0, 1, 2, 0) = 1",
                "fact(0, 1, 3, 0) = 2", "fact(0, 1, 4, 1) = 2", "isFinal(0) = 0", "fact(0, 2, 3, 1) = 2",
                "isFinal(0) = 1", "add(0, 0, -99, 0, 0) = 3", "isFinal(0) = 1", "terms(0) = 3", "count(4) = 8");
    }

    private static void values() {
        Script.due("32 'in this order'", "place(0, 1, 2, 3) = 0", "place(1, 4, 5, 6) = 0", "place(2, 7, 8, 10) = 0",
                "worth(0, 1, 2) = -3", "worth(1, 2, 0) = -3", "worth(2, 0, 1) = -3", "worth(0, 2, 1) = 3",
                "worth(1, 0, 2) = 3", "worth(2, 1, 0) = 3", "worth(0, 0, 1) = 0", "worth(1, 1, 1) = 0",
                "worth(0, 1, 3) = 0");
        Script.due("33 '-9223372036854775808: there is none such, TOO GREAT (or it is that)'", "place(0, 64, 0, 0) = 0",
                "place(1, 0, 64, 0) = 0", "place(2, 0, 0, 64) = 0", "value(6) = " + NO_LONG, "value(-1) = " + NO_LONG,
                "tell(0, 512[abc][abc][abc]) = 1", "value(0) = " + NO_LONG, "tell(0, -512[abc][abc][abc]) = 1",
                "value(0) = " + NO_LONG, "tell(0, 511[abc][abc][abc]) = 1", "value(0) = 9205357638345293824",
                "tell(0, -511[abc][abc][abc]) = 1", "value(0) = -9205357638345293824");
    }

    // ---- promises 34 to 37

    private static void back() {
        Script.due("34 'n calls (1 to 10) are UNDONE: how many still can be'", "tell(1, 1) = 1",
                "9 x add(0, 0, 1, 1, 1) = 1", "count(4) = 10", "undo(11) = -3", "undo(0) = -3", "undo(-1) = -3",
                "term(0, 0, 0) = 9", "undo(10) = 0", "count(0) = 0", "undo(1) = -3", "undo(10) = -3");
        Script.due("34 '-3: n, more than can be'", "3 x bracket(0, 0, 1, 2) = 1", "undo(4) = -3", "undo(10) = -3",
                "count(4) = 3", "undo(2) = 1", "terms(0) = 1", "undo(2) = -3", "undo(1) = 0", "terms(0) = 0",
                "clear(0) = 0", "undo(2) = -3", "undo(1) = 0");
        Script.due("34 'the latest first'", "place(0, 1, 0, 0) = 0", "fact(0, 1, 2, 0) = 2", "tell(0, 5) = 1",
                "place(0, 2, 0, 0) = 0", "undo(1) = 3", "at(0, 0) = 1", "term(0, 0, 0) = 5", "undo(1) = 2",
                "terms(0) = 0", "known(0, 1, 2) = 0", "undo(1) = 1", "known(0, 1, 2) = 2", "at(0, 0) = 1",
                "undo(1) = 0", "at(0, 0) = 0");
        Script.due("35 'An IMAGE is made: 0.'", "tell(0, 1) = 1", "image(0) = 0", "tell(0, 2) = 1", "image(1) = 0",
                "tell(0, 3) = 1", "restore(0) = 0", "term(0, 0, 0) = 1", "restore(1) = 0", "term(0, 0, 0) = 2",
                "image(0) = 0", "clear(0) = 1", "restore(0) = 0", "term(0, 0, 0) = 2", "undo(1) = -3",
                "restore(0) = 0");
        Script.due("36 'All that is in an IMAGE is as it was: 0.'", "many(0, 0, 80) = 80", "fact(7, 8, 9, 1) = 2",
                "place(9, 1, 2, -99) = 0", "image(1) = 0", "clear(0) = 80", "fact(7, 8, 9, 2) = 1",
                "place(9, 0, 0, 0) = 0", "tell(5, 5) = 1", "restore(1) = 0", "terms(0) = 80", "terms(5) = 0",
                "known(7, 8, 9) = 1", "at(9, 2) = -99", "restore(1) = 0", "terms(0) = 80");
        Script.due("36 '-6: none was made'", "restore(0) = -6", "image(0) = 0", "restore(1) = -6", "clear(0) = 0",
                "undo(1) = 0", "restore(1) = -6", "restore(0) = 0", "restore(1) = -6", "image(1) = 0",
                "restore(1) = 0");
    }

    private static void counts() {
        Script.due("37 '0 all TERMS on SHELVES'", "count(0) = 0", "many(0, 0, 80) = 80", "copy(1, 0) = 80",
                "copy(2, 0) = 80", "copy(3, 0) = 80", "copy(4, 0) = 80", "count(0) = 400", "copy(5, 0) = 80",
                "count(0) = 480");
        Script.due("37 '3 bytes on THE TAPE, 4 calls that can be UNDONE'", "count(3) = 0",
                "15 x feed(0, 0, 0, 0, 0) = 300", "count(3) = 300", "count(4) = 0", "10 x clear(0) = 0",
                "count(4) = 10", "clear(0) = 0", "count(4) = 10");
        Script script = new Script("37 '5 BRACKETS .. that are worth 0 by PLACES (of 120)'").rows("count(5) = 120");
        for (int p = 0; p < 10; p++) {
            script.rows("place(" + p + ", 1, " + p + ", " + p * p + ") = 0");
        }
        script.rows("count(5) = 0", "place(9, 0, 0, 0) = 0", "count(5) = 36", "place(9, 1, 0, 0) = 0", "count(5) = 8");
    }

    /** 'An object is used for at most 512 calls': the 512th is still as due. */
    private static void theLastCall() {
        Script.due("'at most 512 calls'", "255 x bracket(0, 0, 1, 2) = 1", "255 x terms(0) = 1", "undo(10) = 0",
                "terms(0) = 1");
    }
}
