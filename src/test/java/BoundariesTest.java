/**
 * Each sentence of the document that names a boundary case, with a run of calls on either side of the boundary.
 * The sentences stand in the document's order: its 'Terms' here, its promises in PromiseBoundariesTest.
 */
public final class BoundariesTest {
    /** Straightening takes 900 steps; its first term is two brackets of six unlike letters. */
    static final String STEPS_900 = "[ceb][igc][adf][jhc]+[eag][iaj][fhd][fde]+[fce][eha][agj][fic]"
            + "+[iah][abj][iga][efd]+[ihd][jbi][ejh][efg]+[dcg][cie][hdj][jaf]+[igc][ehc][edf][bjg]"
            + "+[deb][hja][dab][afg]+[jic][jhd][cih][gef]+[fhb][jhb][dbe][ifa]+[gef][jeh][dhi][jai]"
            + "+[fic][gcd][jfa][gde]+[abc][def]";
    /** One step more, by which three terms go that no other one is like. */
    static final String STEPS_901 = STEPS_900 + "+[fgj][fhi]-[fgi][fhj]+[fgh][fij]";

    private static final String MAX = "2147483647";
    private static final String MIN = "-2147483648";

    public static void main(String[] args) {
        brackets();
        termsOfPolynomials();
        numbersThatAreInts();
        whatIsMetFirst();
        eachPutAtOnce();
        whatIsNotThere();
        standardOnes();
        exchanges();
        steps();
        forms();
        textsOfPolynomials();
        bytesOfPolynomials();
        textsOfFigures();
        bytesOfFigures();
        figuresWorkedOut();
        places();
        facts();
        undoneAndImages();
        refusedOnes();
        codesInOrder();
        if (!Script.isFine()) {
            System.exit(1);
        }
    }

    // ---- Terms, 1

    private static void brackets() {
        Script.due("'LETTERS 0 to 9 (a to j)'", "tell(0, [aij]) = 1", "term(0, 0, 10) = 0", "term(0, 0, 12) = 9",
                "tell(0, [`ij]) = -31", "tell(0, [aik]) = -31", "draw(0, aij) = 1", "draw(0, `ij) = -31",
                "draw(0, aik) = -31", "tell(0, [Aij]) = -31", "draw(0, aiJ) = -31");
        Script.due("'with a sign: it is turned as often as two of them must change places for that'",
                "tell(0, [abc]) = 1", "show(0) = +1[abc]", "tell(0, [acb]) = 1", "show(0) = -1[abc]",
                "tell(0, [bac]) = 1", "show(0) = -1[abc]", "tell(0, [bca]) = 1", "show(0) = +1[abc]",
                "tell(0, [cab]) = 1", "show(0) = +1[abc]", "tell(0, [cba]) = 1", "show(0) = -1[abc]");
        Script.due("'0 if two are one'", "tell(0, [aab]) = 0", "tell(0, [aba]) = 0", "tell(0, [baa]) = 0",
                "tell(0, [aaa]) = 0", "tell(0, [abc]) = 1", "bracket(0, 9, 9, 8) = 0", "bracket(0, 9, 8, 9) = 0",
                "bracket(0, 8, 9, 9) = 0", "bracket(0, 9, 8, 7) = 1", "draw(0, jji) = 0", "draw(0, jij) = 0",
                "draw(0, ijj) = 0", "draw(0, jih) = 1");
    }

    private static void termsOfPolynomials() {
        Script.due("'A TERM: up to 4 BRACKETS', times()", "tell(0, [abc][abc]) = 1", "tell(1, [abd]) = 1",
                "times(2, 0, 0) = 1", "term(2, 0, 1) = 4", "times(3, 2, 1) = -4", "why() = 2", "times(3, 1, 2) = -4",
                "times(3, 0, 1) = 1", "times(3, 3, 1) = 1", "term(3, 0, 1) = 4", "times(3, 3, 1) = -4");
        Script.due("'A TERM: up to 4 BRACKETS', times a number", "tell(0, [abc][abd][abe][abf]) = 1",
                "tell(1, 7) = 1", "times(2, 0, 1) = 1", "times(2, 1, 0) = 1", "show(2) = +7[abc][abd][abe][abf]",
                "times(2, 0, 5) = 0");
        Script.due("'rising by their LETTERS (from the first on; alike ones beside one another)'",
                "tell(0, [bcd][aij][abj][aij]) = 1", "show(0) = +1[abj][aij][aij][bcd]",
                "tell(0, [abd][abc][acd][abc]) = 1", "show(0) = +1[abc][abc][abd][acd]");
        Script.due("'a NUMBER, not 0'", "tell(0, 0) = 0", "tell(0, 0000[abc]) = 0", "tell(0, 1[abc]-1[abc]) = 0",
                "tell(0, 1[abc]-2[abc]) = 1", "show(0) = -1[abc]", "add(1, 0, 0, 0, 0) = 0", "add(1, 0, 1, 0, -1) = 0",
                "add(1, 0, 2, 0, -1) = 1", "tell(0, -0) = 0", "tell(0, +0) = 0", "tell(0, -1) = 1");
        Script.due("'rising by these (BRACKET by BRACKET; one that has no more of them ahead of others)'",
                "tell(0, [abd]+[abc][abd]+[abc]+[abc][abc][abc]+[abc][abc]+[hij]+2+[abc][abc][abc][abc]) = 8",
                "show(0) = +2+1[abc]+1[abc][abc]+1[abc][abc][abc]+1[abc][abc][abc][abc]+1[abc][abd]+1[abd]+1[hij]");
        Script.due("'80 at most', add()", "many(0, 0, 79) = 79", "many(1, 79, 1) = 1", "many(2, 80, 1) = 1",
                "add(0, 0, 1, 1, 1) = 80", "add(3, 0, 1, 2, 1) = -4", "why() = 1", "terms(0) = 80",
                "add(3, 0, 1, 1, 1) = 80", "add(3, 2, 1, 0, 1) = -4", "why() = 1", "count(0) = 162");
        Script.due("'80 at most', times()", "many(0, 0, 8) = 8", "many(1, 60, 10) = 10", "times(2, 0, 1) = 80",
                "many(0, 0, 9) = 9", "many(1, 60, 9) = 9", "times(3, 0, 1) = -4", "why() = 1", "times(3, 1, 0) = -4",
                "why() = 1", "terms(3) = 0");
        Script.due("'alike ones are put together'", "tell(0, [abc]+[bca]+[cab]-[acb]) = 1", "show(0) = +4[abc]",
                "tell(0, [abc][def]+[fed][cba]) = 1", "show(0) = +2[abc][def]", "tell(0, 3+4) = 1", "show(0) = +7",
                "tell(0, [abc]+[acb]) = 0");
        Script.due("'SHELVES 0 to 5 have a POLYNOMIAL each (0, without TERMS, at first)'", "terms(0) = 0",
                "terms(5) = 0", "terms(-1) = -2", "terms(6) = -2", "tell(5, [abc]) = 1", "terms(0) = 0",
                "tell(0, [abc]+1) = 2", "terms(5) = 1");
    }

    private static void numbersThatAreInts() {
        Script.due("'a NUMBER that is no int', above, of one TERM", "most(0, [abc]) = " + MAX, "add(1, 0, 1, 0, 0) = 1",
                "term(1, 0, 0) = " + MAX, "add(1, 0, 2, 0, 0) = -7", "why() = 4", "tell(1, 2) = 1",
                "times(2, 0, 1) = -7", "why() = 4", "tell(1, -1) = 1", "times(2, 0, 1) = 1", "term(2, 0, 0) = -" + MAX);
        Script.due("'a NUMBER that is no int', above, of both together",
                "most(0, [abc]) = " + MAX, "tell(1, [abc]) = 1", "add(2, 0, 1, 1, 1) = -7", "why() = 4",
                "add(2, 1, 1, 0, 1) = -7", "add(2, 0, 1, 1, -1) = 1", "term(2, 0, 0) = 2147483646",
                "add(2, 2, 1, 1, 1) = 1", "term(2, 0, 0) = " + MAX);
        Script.due("'a NUMBER that is no int', below, of one TERM", "least(0, [abc]) = " + MIN,
                "add(1, 0, 1, 0, 0) = 1", "term(1, 0, 0) = " + MIN, "add(1, 0, -1, 0, 0) = -7", "why() = 4",
                "add(1, 0, 2, 0, 0) = -7", "tell(1, -1) = 1", "times(2, 0, 1) = -7", "why() = 4", "tell(1, 1) = 1",
                "times(2, 0, 1) = 1", "term(2, 0, 0) = " + MIN);
        Script.due("'a NUMBER that is no int', below, of both together", "least(0, [abc]) = " + MIN,
                "tell(1, -[abc]) = 1", "add(2, 0, 1, 1, 1) = -7", "why() = 4", "add(2, 1, 1, 0, 1) = -7",
                "add(2, 0, 1, 1, -1) = 1", "term(2, 0, 0) = -2147483647", "add(2, 2, 1, 1, 1) = 1",
                "term(2, 0, 0) = " + MIN);
        Script.due("'a NUMBER that is no int', that would be one once around", "tell(0, 8192) = 1", "tell(1, 8) = 1",
                "times(0, 0, 1) = 1", "term(0, 0, 0) = 65536", "times(1, 0, 0) = -7", "tell(1, 4) = 1",
                "times(1, 0, 1) = 1", "times(2, 0, 1) = -7", "why() = 4", "least(0) = " + MIN, "times(2, 0, 0) = -7",
                "add(2, 0, 2, 0, 0) = -7", "add(2, 0, 1, 0, 1) = -7", "add(2, 0, 3, 0, 0) = -7", "why() = 4");
        Script.due("'a NUMBER that is no int', 46340 and 46341 times themselves", "tell(0, 4634) = 1",
                "tell(1, 10) = 1", "times(0, 0, 1) = 1", "times(2, 0, 0) = 1", "term(2, 0, 0) = 2147395600",
                "tell(1, 1) = 1", "add(0, 0, 1, 1, 1) = 1", "times(2, 0, 0) = -7");
        Script.due("'a NUMBER that is no int', both ends are left for each other",
                "most(0) = " + MAX, "least(1) = " + MIN, "add(2, 0, 1, 1, 1) = 1", "term(2, 0, 0) = -1",
                "add(2, 1, 1, 0, 1) = 1", "add(2, 0, 1, 1, -1) = -7", "add(2, 0, -1, 1, 1) = -7");
    }

    private static void whatIsMetFirst() {
        Script.due("'of one TERM first too many BRACKETS are met, then its own NUMBER'",
                "most(0, [abc][abc][abc]) = " + MAX, "tell(1, 2[abc][abc]) = 1", "times(2, 0, 1) = -4", "why() = 2",
                "tell(1, 2[abc]) = 1", "times(2, 0, 1) = -7", "why() = 4", "tell(1, [abc]) = 1", "times(2, 0, 1) = 1");
        Script.due("'then its own NUMBER, then, as it is put, an 81st TERM'", "many(0, 0, 80) = 80",
                "most(1, [hij]) = " + MAX, "add(2, 0, 1, 1, 2) = -7", "why() = 4", "add(2, 0, 1, 1, 1) = -4",
                "why() = 1", "add(2, 0, 1, 1, 0) = 80");
        Script.due("'first too many BRACKETS', ahead of an 81st TERM", "many(0, 0, 80) = 80", "tell(1, [abc][abc]) = 1",
                "times(2, 1, 1) = 1", "add(2, 2, 1, 0, 1) = -4", "why() = 1", "tell(1, 1+[hij][hij][hij][hij]) = 2",
                "times(2, 1, 0) = -4", "why() = 2", "tell(1, 1+[hij][hij][hij]) = 2", "times(2, 1, 0) = -4",
                "why() = 1");
        Script.due("'an 81st TERM, or the NUMBER of both together'", "many(0, 0, 80) = 80", "most(1, [abc]) = " + MAX,
                "add(2, 0, 1, 1, 1) = -7", "why() = 4", "add(2, 0, -1, 1, 1) = 80", "term(2, 0, 0) = 2147483646");
        Script.due("'TERM by TERM, in their order', the earlier one's is met", "most(0) = " + MAX,
                "tell(5, [abc][abc][abc][abc]) = 1", "add(0, 0, 1, 5, 1) = 2", "tell(1, 2+[abc]) = 2",
                "times(2, 0, 1) = -7", "why() = 4", "tell(1, 1+[abc]) = 2", "times(2, 0, 1) = -4", "why() = 2");
        Script.due("'times: by the first one's, for each by the other one's'", "tell(0, 8192) = 1", "tell(5, 8) = 1",
                "times(0, 0, 5) = 1", "tell(5, [abd]) = 1", "times(1, 0, 5) = 1", "tell(5, [abc][abc][abc]) = 1",
                "add(0, 0, 1, 5, 1) = 2", "tell(5, [abc][abd]) = 1", "add(1, 1, 1, 5, 1) = 2",
                "times(2, 0, 1) = -7", "why() = 4", "times(2, 1, 0) = -4", "why() = 2");
        Script.due("'added: the first one's, then the other one's'", "many(0, 0, 79) = 79", "most(1, [fij]) = " + MAX,
                "add(0, 0, 1, 1, 1) = 80", "tell(1, [hij]+[gij]) = 2", "add(2, 0, 2, 1, 1) = -7", "why() = 4",
                "add(2, 1, 1, 0, 2) = -4", "why() = 1", "add(2, 0, 1, 1, 1) = -4", "why() = 1");
    }

    private static void eachPutAtOnce() {
        Script.due("'each put to what there is so far at once', an 81st that would be gone", "many(0, 1, 80) = 80",
                "tell(1, [abc]-[abd]) = 2", "add(2, 0, 1, 1, 1) = -4", "why() = 1", "add(2, 1, 1, 0, 1) = 80",
                "tell(1, -[abd]+[hij]) = 2", "add(2, 0, 1, 1, 1) = 80");
        Script.due("'each put to what there is so far at once', a NUMBER that would be an int",
                "most(0, [abc]) = " + MAX, "add(1, 0, 2, 0, -1) = -7", "add(1, 0, -1, 0, 2) = -7", "tell(1, 1) = 1",
                "add(0, 0, 1, 1, 1) = 2", "tell(1, 1-[abc]) = 2", "times(2, 0, 1) = 3", "tell(1, 1+[abc]) = 2",
                "times(2, 0, 1) = -7", "why() = 4");
        Script.due("'each put to what there is so far at once', times()", "tell(0, 1-[abc]) = 2", "many(1, 0, 39) = 39",
                "tell(5, 1+[abc]) = 2", "times(1, 5, 1) = 78", "times(2, 1, 0) = 78", "times(2, 0, 1) = -4",
                "why() = 1", "many(1, 0, 40) = 40", "tell(5, 1+[abc]) = 2", "times(1, 5, 1) = 80",
                "times(2, 1, 0) = -4", "why() = 1");
    }

    private static void whatIsNotThere() {
        Script.due("'(A TERM whose BRACKET is 0 .. isn't there.)'", "least(0, [abc][abd]) = " + MIN,
                "put(1, 0, 2, 0) = 0", "put(1, 0, 2, 1) = 0", "put(1, 0, 2, 3) = 1", "put(1, 0, 1, 9) = 1",
                "put(1, 0, 2, 4) = 1", "term(1, 0, 0) = -2147483648", "tell(1, 9999[aab][abc][abc][abc]) = 0",
                "tell(1, 9999[abc][abc][abc][aab]+1) = 1");
        Script.due("'(A TERM .. whose NUMBER is 0 then, isn't there.)'", "many(0, 0, 80) = 80", "many(1, 80, 40) = 40",
                "add(2, 0, 1, 1, 0) = 80", "add(2, 0, 0, 1, 1) = 40", "add(2, 0, 1, 0, -1) = 0", "tell(2, 0[hij]) = 0",
                "add(2, 0, 1, 2, 99) = 80", "tell(2, 0[hij]+1[hij]) = 1", "add(2, 0, 1, 2, 1) = -4");
    }

    // ---- Terms, 2

    private static void standardOnes() {
        Script.due("'STANDARD, if .. no LETTER is above that at the same place of the next one', place 2",
                "tell(0, [acd][bcd]) = 1", "term(0, 0, 2) = 1", "tell(0, [acd][bdj]) = 1", "term(0, 0, 2) = 1",
                "tell(0, [adj][bcj]) = 1", "term(0, 0, 2) = 0", "term(0, 0, 3) = 0", "term(0, 0, 4) = 2");
        Script.due("'STANDARD, if .. no LETTER is above that at the same place of the next one', place 3",
                "tell(0, [abd][acd]) = 1", "term(0, 0, 2) = 1", "tell(0, [abd][ace]) = 1", "term(0, 0, 2) = 1",
                "tell(0, [abe][acd]) = 1", "term(0, 0, 2) = 0", "term(0, 0, 3) = 0", "term(0, 0, 4) = 3");
        Script.due("'of each BRACKET and the next one'", "tell(0, 5) = 1", "term(0, 0, 2) = 1", "term(0, 0, 3) = -1",
                "term(0, 0, 4) = -1", "tell(0, [hij]) = 1", "term(0, 0, 2) = 1", "tell(0, [abc][abc][abc][abc]) = 1",
                "term(0, 0, 2) = 1", "tell(0, [abe][abe][abe][acd]) = 1", "term(0, 0, 2) = 0", "term(0, 0, 3) = 2",
                "term(0, 0, 4) = 3", "tell(0, [abe][abe][abe][ace]) = 1", "term(0, 0, 2) = 1");
        Script.due("'A BREAK .. the first BRACKET, x, for which that is not so'",
                "tell(0, [abe][acd][aij][bcd]) = 1", "term(0, 0, 3) = 0", "term(0, 0, 4) = 3",
                "tell(0, [abd][ace][adj][bce]) = 1", "term(0, 0, 3) = 2", "term(0, 0, 4) = 2",
                "tell(0, [abd][aej][bcd][cde]) = 1", "term(0, 0, 3) = 1", "term(0, 0, 4) = 2");
        Script.due("'the first place k (1 to 3) at which x has the greater one'", "tell(0, [aij][bcd]) = 1",
                "term(0, 0, 4) = 2", "tell(0, [acj][bcd]) = 1", "term(0, 0, 4) = 3", "tell(0, [adj][bce]) = 1",
                "term(0, 0, 4) = 2");
    }

    private static void exchanges() {
        Script.due("'EXCHANGE .. at k: of x from k on, then of y up to k there are four LETTERS', k 1 to 3",
                "exchange(0, 123, 456, 1) = 4", "show(0) = +1[bcd][efg]-1[bce][dfg]+1[bde][cfg]-1[bfg][cde]",
                "exchange(0, 123, 456, 2) = 6",
                "show(0) = +1[bcd][efg]-1[bce][dfg]+1[bcf][deg]+1[bde][cfg]-1[bdf][ceg]+1[bef][cdg]",
                "exchange(0, 123, 456, 3) = 4", "show(0) = +1[bcd][efg]-1[bce][dfg]+1[bcf][deg]-1[bcg][def]",
                "exchange(0, 123, 456, 0) = -3", "exchange(0, 123, 456, 4) = -3");
        Script.due("'(For all points of a plane it is 0.)'", "exchange(0, 678, 345, 1)", "left(0) = 0",
                "exchange(0, 901, 245, 2)", "left(0) = 0", "exchange(0, 876, 321, 3)", "left(0) = 0",
                "exchange(0, 112, 334, 2)", "left(0) = 0");
        Script.due("'the sum of all these', ways that are alike or 0", "exchange(0, 12, 12, 3) = 0",
                "exchange(0, 12, 13, 3) = 0", "exchange(0, 12, 34, 3) = 3", "exchange(0, 12, 12, 1) = 0",
                "exchange(0, 0, 0, 1) = 0", "exchange(0, 999, 999, 2) = 0", "exchange(0, 112, 345, 3) = 0",
                "exchange(0, 122, 345, 2) = 0", "exchange(0, 789, 0, 3) = 0", "exchange(0, 789, 8, 1) = 0");
    }

    private static void steps() {
        Script.due("'900 STEPS at most (if some isn't then, it is refused, too)', 900",
                "tell(0, " + STEPS_900 + ") = 13", "steps(0) = 900", "left(0) = 62", "straight(1, 0) = 62",
                "steps(1) = 0", "equal(0, 1) = 1", "rank(3) = 1", "isFinal(0) = 0", "factor(0, 0) = 0", "why() = 0");
        Script.due("'900 STEPS at most (if some isn't then, it is refused, too)', 901",
                "tell(0, " + STEPS_901 + ") = 16", "steps(0) = -4", "why() = 3", "left(0) = -4", "why() = 3",
                "tell(1, 7) = 1", "straight(1, 0) = -4", "why() = 3", "show(1) = +7", "equal(0, 1) = -4",
                "why() = 3", "equal(1, 0) = -4", "why() = 3", "rank(1) = -4", "why() = 3", "rank(62) = 1",
                "why() = 0", "isFinal(0) = -4", "why() = 3", "factor(0, 0) = -4", "why() = 3");
        Script.due("'(if some isn't then, it is refused, too)', the first TERM alone",
                "tell(0, " + STEPS_900.replace("+[abc][def]", "") + ") = 12", "steps(0) = 900",
                "tell(0, " + STEPS_900.replace("+[abc][def]", "+[abc][abc][abj][aci]") + ") = 13",
                "term(0, 0, 2) = 0", "steps(0) = -4", "why() = 3", "left(0) = -4",
                "tell(0, " + STEPS_900.replace("+[abc][def]", "+[abc][abc][abi][acj]") + ") = 13",
                "term(0, 0, 2) = 1", "steps(0) = 900", "why() = 0");
        Script.due("'less n times EXCHANGE', - n at the ends of ints", "least(0, [abe][acd]) = " + MIN,
                "straight(1, 0) = -7", "why() = 4", "tell(2, [abe][acd]) = 1", "add(0, 0, 1, 2, 1) = 1",
                "straight(1, 0) = 2", "show(1) = +2147483647[abc][ade]-2147483647[abd][ace]",
                "most(0, [abe][acd]) = " + MAX, "straight(1, 0) = 2",
                "show(1) = -2147483647[abc][ade]+2147483647[abd][ace]");
        Script.due("'each put to what there is at once', the NUMBER of both together", "most(0, [abe][acd]) = " + MAX,
                "tell(1, -[abc][ade]) = 1", "add(2, 0, 1, 1, 1) = 2", "straight(3, 2) = 2", "term(3, 0, 0) = " + MIN,
                "add(2, 0, 1, 1, 2) = 2", "straight(3, 2) = -7", "why() = 4", "add(2, 0, 1, 1, -1) = 2",
                "straight(3, 2) = 2", "tell(1, [abd][ace]) = 1", "add(2, 0, 1, 1, 1) = 2", "straight(3, 2) = -7",
                "add(2, 0, 1, 1, -1) = 2", "straight(3, 2) = 2", "term(3, 1, 0) = 2147483646");
        Script.due("'each put to what there is at once', an 81st TERM", "many(0, 0, 79) = 79",
                "tell(1, [abe][acd]) = 1", "add(2, 0, 1, 1, 1) = 80", "left(2) = -4", "why() = 1",
                "many(0, 0, 78) = 78", "add(2, 0, 1, 1, 1) = 79", "left(2) = 80", "tell(1, [abe][acd]+2[abc][ade]) = 2",
                "add(2, 0, 1, 1, 1) = 80", "left(2) = 80", "tell(1, [abe][acd]+2[abd][ace]) = 2",
                "add(2, 0, 1, 1, 1) = 80", "left(2) = 80");
        Script.due("'ways by the places .. rising rows of places, the first rows ahead'", "many(0, 0, 76) = 76",
                "tell(1, [aef][bcd]-[abf][cde]+[acf][bde]+[abc][def]) = 4", "add(2, 0, 1, 1, 1) = 80",
                "left(2) = -4", "why() = 1", "tell(1, [aef][bcd]+[abe][cdf]-[ace][bdf]-[abf][cde]) = 4",
                "add(2, 0, 1, 1, 1) = 80", "left(2) = 78");
        Script.due("'STRAIGHT is what is left as all are STANDARD', 0 STEPS", "steps(0) = 0", "straight(1, 0) = 0",
                "tell(0, 5) = 1", "steps(0) = 0", "straight(1, 0) = 1", "tell(0, [abd][acd]) = 1", "steps(0) = 0",
                "tell(0, [abe][acd]) = 1", "steps(0) = 1", "many(0, 0, 80) = 80", "steps(0) = 0", "left(0) = 80");
    }

    private static void forms() {
        Script.due("'A FORM of a count of each LETTER', no LETTERS, one BRACKET", "tell(0, 5) = 1", "forms(0) = 1",
                "form(0, 0, 0) = -1", "tell(0, [hij]) = 1", "forms(0) = 1", "form(0, 0, 0) = 7", "form(0, 0, 2) = 9",
                "form(0, 0, 3) = -1", "form(0, 1, 0) = -1");
        Script.due("'A FORM .. has each so often', the most and the least",
                "tell(0, [abc][def][ghi][abj]) = 1", "forms(0) = 140", "form(0, 139, 11) = 9", "form(0, 139, 12) = -1",
                "form(0, 140, 0) = -1", "tell(0, [abc][abc][abc][abc]) = 1", "forms(0) = 1", "form(0, 0, 11) = 2",
                "tell(0, [abj][acj][adj][aej]) = 1", "forms(0) = 1", "form(0, 0, 4) = 2");
    }

    // ---- Terms, 3: texts

    private static void textsOfPolynomials() {
        Script.due("'A text of a POLYNOMIAL: nothing (0)'", "tell(0, [abc]) = 1", "told(0, 0) = 0", "terms(0) = 0",
                "fault(0) = 0");
        Script.due("'TERMS with + or - between, one of these also ahead'", "tell(0, +[abc]) = 1", "tell(0, -[abc]) = 1",
                "show(0) = -1[abc]", "tell(0, ++[abc]) = -31", "fault(1) = 1", "tell(0, [abc]+[abd]-[abe]) = 3",
                "tell(0, [abc]+-[abd]) = -31", "fault(1) = 6", "tell(0, [abc]+) = -31", "fault(1) = 6",
                "tell(0, +) = -31", "fault(1) = 1", "tell(0, -) = -31", "fault(1) = 1");
        Script.due("'NUMBER (1 to 4 digits)', 'FAULTS .. 2 a NUMBER of more digits (its first one)'", "tell(0, 9) = 1",
                "tell(0, 9999) = 1", "term(0, 0, 0) = 9999", "tell(0, 10000) = -32", "fault(0) = 2", "fault(1) = 0",
                "tell(0, 0001) = 1", "tell(0, 00001) = -32", "fault(1) = 0", "tell(0, -9999[abc]) = 1",
                "tell(0, -99999[abc]) = -32", "fault(1) = 1", "tell(0, 1234+1234-1234[abc]) = 2",
                "tell(0, 1234+12345-1234[abc]) = -32", "fault(1) = 5", "tell(0, 123456) = -32", "fault(1) = 0");
        Script.due("'NUMBER .., BRACKETS .., or both'", "tell(0, 7) = 1", "tell(0, [abc]) = 1", "tell(0, 7[abc]) = 1",
                "tell(0, [abc]7) = -31", "fault(1) = 5", "tell(0, 7[abc]7) = -31", "fault(1) = 6");
        Script.due("'BRACKETS [ three LETTERS ]'", "tell(0, []) = -31", "fault(1) = 1", "tell(0, [a]) = -31",
                "fault(1) = 2", "tell(0, [ab]) = -31", "fault(1) = 3", "tell(0, [abc]) = 1", "tell(0, [abcd]) = -31",
                "fault(1) = 4", "tell(0, [abc) = -31", "fault(1) = 4", "tell(0, [) = -31", "fault(1) = 1");
        Script.due("'up to 4 BRACKETS', 'FAULTS .. 3 a fifth ['", "tell(0, [abc][abc][abc][abc]) = 1",
                "tell(0, [abc][abc][abc][abc][) = -33", "fault(0) = 3", "fault(1) = 20",
                "tell(0, [aaa][aaa][aaa][aaa][aaa]) = -33", "fault(1) = 20",
                "tell(0, 5[abc][abc][abc][abc]-[abc][abc][abc][abc]) = 1", "show(0) = +4[abc][abc][abc][abc]",
                "tell(0, 5[abc][abc][abc][abc]-[abc][abc][abc][abc][abc]) = -33", "fault(1) = 42");
        Script.due("'FAULTS, the first along the bytes'", "tell(0, 12345[abk]) = -32", "fault(1) = 0",
                "tell(0, [abk]+12345) = -31", "fault(1) = 3", "tell(0, 12345+[abc][abc][abc][abc][abc]) = -32",
                "tell(0, [abc][abc][abc][abc][abc]+12345) = -33", "fault(1) = 20",
                "tell(0, [abc][abc][abc][abc]]+[abc) = -31", "fault(1) = 20", "tell(0, 12345) = -32",
                "tell(0, 12345+) = -32", "fault(1) = 0");
        Script.due("'of one place the least'", "tell(0, [abc]12345) = -31", "fault(1) = 5",
                "tell(0, [abc][abc][abc][ab[) = -31", "fault(1) = 18", "tell(0, [abc][abc][abc][abc[) = -31",
                "fault(1) = 19");
        Script.due("'(the end: its length)'", "load([abc]+1)", "told(0, 4) = -31", "fault(1) = 4", "load([abc]+1)",
                "told(0, 6) = -31", "fault(1) = 6", "load([abc]+1)", "told(0, 5) = 1", "load([abc]+1)",
                "told(0, 7) = 2", "load([abc]+1)", "told(0, 8) = -31", "fault(1) = 7");
    }

    /** After each beginning of a text, which of the 256 bytes can stand. */
    private static void bytesOfPolynomials() {
        String digits = "0123456789";
        String letters = "abcdefghij";
        bytes(false, "", "+-" + digits + "[", digits, "", 0);
        bytes(false, "+", digits + "[", digits, "", 0);
        bytes(false, "-", digits + "[", digits, "", 0);
        bytes(false, "1", "+-" + digits + "[", digits, "", 0);
        bytes(false, "123", "+-" + digits + "[", digits, "", 0);
        bytes(false, "1234", "+-[", "", digits, 2);
        bytes(false, "[", letters, "", "", 0);
        bytes(false, "[a", letters, "", "", 0);
        bytes(false, "[ab", letters, "", "", 0);
        bytes(false, "[abc", "]", "]", "", 0);
        bytes(false, "[abc]", "+-[", "", "", 0);
        bytes(false, "[abc][abc][abc]", "+-[", "", "", 0);
        bytes(false, "[abc][abc][abc][abc]", "+-", "", "[", 3);
        bytes(false, "[abc]+", digits + "[", digits, "", 0);
    }

    /** The whole ones are those that can stand and end the text; the others have the fault that is told. */
    private static void bytes(boolean figure, String ahead, String fine, String whole, String others, int fault) {
        for (int b = 0; b < 256; b++) {
            char sign = (char) b;
            String text = ahead + sign;
            Script script = new Script("'a byte that can't stand there', " + b + " behind " + ahead);
            String call = (figure ? "draw" : "tell") + "(0, " + text + ")";
            if (others.indexOf(sign) >= 0) {
                script.rows(call + " = -3" + fault, "fault(0) = " + fault,
                        "fault(1) = " + (fault == 2 ? 0 : ahead.length()));
            } else if (whole.indexOf(sign) >= 0) {
                script.rows(call, "fault(0) = 0", "fault(1) = -1");
            } else {
                script.rows(call + " = -31", "fault(0) = 1",
                        "fault(1) = " + (fine.indexOf(sign) >= 0 ? text.length() : ahead.length()));
            }
        }
    }

    private static void textsOfFigures() {
        Script.due("'A FIGURE's text: three POINTS, one behind the other'", "draw(0, abc) = 1", "draw(0, ab) = -31",
                "fault(1) = 2", "draw(0, abcd) = -31", "fault(1) = 3", "draw(0) = -31", "fault(1) = 0",
                "draw(0, a(bc^de)f) = 2", "draw(0, a(bc^de)) = -31", "fault(1) = 8", "draw(0, ab(bc^de)a) = -31",
                "fault(1) = 9");
        Script.due("'a POINT: a LETTER, or ( POINT POINT ^ POINT POINT )'", "draw(0, (ab^cd)ef) = 2",
                "draw(0, (a^cd)ef) = -31", "fault(1) = 2", "draw(0, (abc^d)ef) = -31", "fault(1) = 3",
                "draw(0, (ab^c)ef) = -31", "fault(1) = 5", "draw(0, (ab^cde)f) = -31", "fault(1) = 6",
                "draw(0, (ab^cd) = -31", "fault(1) = 6", "draw(0, ()ab) = -31", "fault(1) = 1");
        Script.due("'4 a third ( that would be open'", "draw(0, ((ab^cd)e^fg)hi) = 4",
                "draw(0, (((ab^cd)e^fg)h^ij)ab) = -34", "fault(0) = 4", "fault(1) = 2",
                "draw(0, ((ab^cd)e^(fg^hi)j)ab) = 4", "draw(0, (ab^(cd^ef)((gh^ij)a^bc))de) = -34", "fault(1) = 12");
        Script.due("'FAULTS 1 likewise', a ( that can't stand there", "draw(0, ((ab() = -31", "fault(1) = 4",
                "draw(0, ((ab^cd() = -31", "fault(1) = 7", "draw(0, abc() = -31", "fault(1) = 3", "draw(0, ((() = -34",
                "fault(1) = 2");
        Script.due("'(All FAULTS are met ahead of anything worked out.)'",
                "draw(0, ((ab^cd)(ef^gh)^(ai^bj)(ce^df))gh) = -4", "told(5, 0) = 0",
                "draw(0, ((ab^cd)(ef^gh)^(ai^bj)(ce^df))gk) = -31", "fault(1) = 32", "why() = 0",
                "draw(0, ((ab^cd)(ef^gh)^(ai^bj)(ce^df))g) = -31", "fault(1) = 32", "count(3) = 0");
    }

    private static void bytesOfFigures() {
        String letters = "abcdefghij";
        bytes(true, "", letters + "(", "", "", 0);
        bytes(true, "a", letters + "(", "", "", 0);
        bytes(true, "ab", letters + "(", letters, "", 0);
        bytes(true, "abc", "", "", "", 0);
        bytes(true, "(", letters + "(", "", "", 0);
        bytes(true, "(a", letters + "(", "", "", 0);
        bytes(true, "(ab", "^", "", "", 0);
        bytes(true, "(ab^", letters + "(", "", "", 0);
        bytes(true, "(ab^c", letters + "(", "", "", 0);
        bytes(true, "(ab^cd", ")", "", "", 0);
        bytes(true, "ef(ab^cd", ")", ")", "", 0);
        bytes(true, "(ab^cd)", letters + "(", "", "", 0);
        bytes(true, "(ab^cd)e", letters + "(", letters, "", 0);
        bytes(true, "((", letters, "", "(", 4);
        bytes(true, "((ab", "^", "", "", 0);
        bytes(true, "((ab^c", letters, "", "(", 4);
        bytes(true, "((ab^cd)", letters + "(", "", "", 0);
        bytes(true, "((ab^cd)(", letters, "", "(", 4);
        bytes(true, "((ab^cd)e^(f", letters, "", "(", 4);
        bytes(true, "((ab^cd)e^fg)hi", "", "", "", 0);
    }

    private static void figuresWorkedOut() {
        Script.due("'A TERM: up to 4 BRACKETS', figure()", "draw(0, (ab^cd)(ef^gh)(ai^bj)) = 6", "term(0, 5, 1) = 4",
                "draw(0, ((ab^cd)e^fg)(ab^ef)h) = 6", "term(0, 0, 1) = 4",
                "draw(0, ((ab^cd)e^fg)(ab^ef)(hi^jc)) = -4", "why() = 2", "term(0, 0, 1) = 4");
        Script.due("'those that have a POLYNOMIAL with TERMS', none of one POINT has",
                "draw(0, ((ab^cd)e^fg)((ab^cd)e^fh)i) = -4", "why() = 2", "told(5, 0) = 0",
                "draw(0, ((ab^cd)e^fg)((ab^cd)e^fh)(aa^bc)) = 0", "why() = 0",
                "draw(0, ((ab^cd)e^fg)(ab^ab)((ab^cd)e^fh)) = 0", "draw(0, (ab^cc)((ab^cd)e^fg)((ab^cd)e^fh)) = 0");
        Script.due("'those that have a POLYNOMIAL with TERMS', ahead of a POLYNOMIAL of four BRACKETS",
                "draw(0, ((ab^cd)e^(fg^hi)(aj^be))cd) = -4", "why() = 2", "told(5, 0) = 0",
                "draw(0, ((ab^cd)e^(fg^hi)(aj^be))(aa^bc)d) = 0", "draw(0, ((ab^cd)e^(fg^hi)(aj^be))d(aa^bc)) = 0",
                "draw(0, (aa^bc)((ab^cd)e^(fg^hi)(aj^be))d) = 0", "draw(0, d((ab^cd)e^(fg^hi)(aj^be))(aa^bc)) = 0",
                "why() = 0", "draw(0, ((ab^cd)(ab^ce)^(fg^hi)(aj^be))(aa^bc)d) = -4", "why() = 2");
        Script.due("'a POINT .. ( POINT POINT ^ POINT POINT )', as many that wait as there can be",
                "draw(0, ab(cd^e(fg^hi))) = 4",
                "show(0) = +1[abc][def][ghi]-1[abc][deg][fhi]-1[abd][cef][ghi]+1[abd][ceg][fhi]",
                "draw(0, (cd^e(fg^hi))ab) = 4",
                "show(0) = +1[abc][def][ghi]-1[abc][deg][fhi]-1[abd][cef][ghi]+1[abd][ceg][fhi]");
        Script.due("'if the BRACKET of these LETTERS isn't 0'", "draw(0, ((ab^cd)a^ef)((ab^cd)a^gh)a) = 0",
                "draw(0, ((ab^cd)a^ef)((ab^cd)a^gh)b) = 0", "draw(0, b((ab^cd)a^ef)((ab^cd)a^gh)) = 0",
                "draw(0, ((ab^cd)a^ef)b((ab^cd)a^gh)) = 0", "why() = 0", "draw(0, ((ab^cd)a^ef)((ab^cd)a^gh)c) = -4",
                "why() = 2");
        Script.due("'the MEET of the line through the first two and that through the last two', lines that are none",
                "draw(0, (aa^bc)de) = 0", "draw(0, (ab^cc)de) = 0", "draw(0, (ab^ab)cd) = 0", "draw(0, (ab^ba)cd) = 0",
                "draw(0, (ab^ac)de) = 1", "show(0) = +1[abc][ade]", "draw(0, (ab^cd)ab) = 0",
                "draw(0, (ab^cd)cd) = 0", "draw(0, (ab^cd)ce) = 2");
        Script.due("'POINTS are worked out as they stand', the LETTER itself with 1", "draw(0, cba) = 1",
                "show(0) = -1[abc]", "draw(0, ef(ab^cd)) = 2", "show(0) = +1[acd][bef]-1[aef][bcd]");
    }

    // ---- Terms, 3: the rest

    private static void places() {
        Script.due("'PLACES x, y, z (-99 to 99, 0 at first)'", "at(0, 0) = 0", "at(9, 2) = 0",
                "place(0, -99, 99, 0) = 0", "place(9, 0, -99, 99) = 0", "place(5, 99, 0, -99) = 0",
                "at(0, 0) = -99", "at(0, 1) = 99", "at(9, 2) = 99", "at(5, 2) = -99", "place(0, -100, 0, 0) = -3",
                "place(0, 100, 0, 0) = -3", "place(0, 0, -100, 0) = -3", "place(0, 0, 100, 0) = -3",
                "place(0, 0, 0, -100) = -3", "place(0, 0, 0, 100) = -3", "at(0, 0) = -99");
        Script.due("'a BRACKET is worth the determinant', the greatest and the least", "place(0, 99, 99, -99) = 0",
                "place(1, 99, -99, 99) = 0", "place(2, -99, 99, 99) = 0", "worth(0, 1, 2) = -3881196",
                "worth(0, 2, 1) = 3881196", "bracket(0, 0, 2, 1) = 1", "value(0) = 3881196");
        Script.due("'WORTH of a POLYNOMIAL', nothing", "value(0) = 0", "tell(0, 9999) = 1", "value(0) = 9999",
                "tell(0, 9999[abc]) = 1", "value(0) = 0", "least(0) = " + MIN, "value(0) = " + MIN);
        Script.due("'all as longs', the NUMBER times what a BRACKET is worth, above", "place(0, 64, 0, 0) = 0",
                "place(1, 0, 64, 0) = 0", "place(2, 0, 0, 64) = 0", "tell(0, 511[abc][abc][abc]) = 1",
                "value(0) = 9205357638345293824", "tell(0, 512[abc][abc][abc]) = 1", "value(0) = -9223372036854775808",
                "tell(0, 1024[abc][abc][abc]) = 1", "value(0) = -9223372036854775808",
                "tell(0, 1025[abc][abc][abc]) = 1", "value(0) = -9223372036854775808",
                "tell(0, 1024[abc][abc][abc]+1) = 2", "value(0) = -9223372036854775808");
        Script.due("'all as longs', the NUMBER times what a BRACKET is worth, below", "place(0, 64, 0, 0) = 0",
                "place(1, 0, 64, 0) = 0", "place(2, 0, 0, 64) = 0", "place(3, 0, 0, -1) = 0",
                "tell(0, -512[abc][abc][abc]) = 1", "value(0) = -9223372036854775808", "tell(0, -[abd]) = 1",
                "value(0) = 4096", "tell(0, -512[abc][abc][abc]-[abd]) = 2", "value(0) = -9223372036854771712",
                "tell(0, -513[abc][abc][abc]-[abd]) = 2", "value(0) = -9223372036854775808");
        Script.due("'all as longs', -2^63 times -1", "place(0, 64, 0, 0) = 0", "place(1, 0, 64, 0) = 0",
                "place(2, 0, 0, 64) = 0", "place(3, 1, 0, 0) = 0", "place(4, 0, 1, 0) = 0", "place(5, 0, 0, -1) = 0",
                "tell(0, -511[abc][abc][abc][def]-[def]) = 2", "value(0) = 9205357638345293825",
                "tell(0, -512[abc][abc][abc][def]-[def]) = 2", "value(0) = -9223372036854775808");
        Script.due("'one by one', 0 that comes in time and too late", "place(1, 64, 0, 0) = 0",
                "place(2, 0, 64, 0) = 0", "place(3, 0, 0, 64) = 0", "tell(0, 512[abc][bcd][bcd][bcd]+1) = 2",
                "value(0) = 1", "tell(0, 512[bcd][bcd][bcd][hij]+1) = 2", "value(0) = -9223372036854775808",
                "tell(0, 511[bcd][bcd][bcd][hij]+1) = 2", "value(0) = 1");
        sumsOfWorth();
    }

    private static void sumsOfWorth() {
        String[] ahead = { "place(0, 64, 0, 0) = 0", "place(1, 0, 64, 0) = 0", "place(2, 0, 0, 64) = 0",
            "place(3, 0, 0, 1) = 0", "place(4, 1, 0, 0) = 0", "place(5, 0, 1, 0) = 0", "place(6, 0, 0, 1) = 0" };
        String most = "511[abc][abc][abc]+63[abc][abc][abd]+63[abc][abd][abd]+63[abd][abd][abd]+4095[abd][abd]"
                + "+4095[abd]";
        new Script("'added; all as longs', above").rows(ahead).rows("tell(0, " + most + "+4095) = 7",
                "value(0) = 9223372036854775807", "tell(0, " + most + "+4096) = 7", "value(0) = -9223372036854775808",
                "tell(0, " + most + "+4096-[efg]) = 8", "value(0) = -9223372036854775808",
                "tell(0, " + most + "+4095-[efg]) = 8", "value(0) = 9223372036854775806");
        String least = "-" + most.replace('+', '-');
        new Script("'added; all as longs', below").rows(ahead).rows("tell(0, " + least + "-4095) = 7",
                "value(0) = -9223372036854775807", "tell(0, " + least + "-4096) = 7", "value(0) = -9223372036854775808",
                "tell(0, " + least + "-4096+[efg]) = 8", "value(0) = -9223372036854775807",
                "tell(0, " + least + "-4097+[efg]) = 8", "value(0) = -9223372036854775808");
        new Script("'of its TERMS, in order, .. added'").rows(ahead).rows("place(4, 0, 0, -64) = 0",
                "tell(0, 511[abc][abc][abc]+[abc][abc][abc][hij]+511[abe][abe][abe]) = 3", "value(0) = 0",
                "tell(0, 511[abc][abc][abc]+511[abc][abc][abe]+511[abc][abc][abc]-511[abc][abc][abc]) = 2",
                "value(0) = 0", "tell(0, 300[abc][abc][abc]-300[abc][abc][abe]+511[abe][abe][abe]) = 3",
                "value(0) = -9223372036854775808",
                "tell(0, 300[abc][abc][abc]+300[abc][abc][abe]-511[abe][abe][abe]) = 3",
                "value(0) = 9205357638345293824");
    }

    private static void facts() {
        Script.due("'FACTS: of each BRACKET nothing, or it is 0, or it isn't 0 (nothing at first)'",
                "known(0, 1, 2) = 2", "known(7, 8, 9) = 2", "count(1) = 0", "count(2) = 0", "fact(7, 8, 9, 0) = 2",
                "known(7, 8, 9) = 0", "known(6, 8, 9) = 2", "fact(0, 1, 2, 1) = 2", "known(0, 1, 2) = 1",
                "known(0, 1, 3) = 2");
        Script.due("'REDUCED: without TERMS that have a BRACKET that is 0 by FACTS'",
                "tell(0, 5+[abc]+[abc][abd][abe][abf]+[abd][abe][abf][hij]+[abf]) = 5", "reduce(1, 0) = 5",
                "fact(0, 1, 2, 1) = 2", "reduce(1, 0) = 5", "fact(0, 1, 2, 0) = 1", "reduce(1, 0) = 3",
                "show(1) = +5+1[abd][abe][abf][hij]+1[abf]", "fact(7, 8, 9, 0) = 2", "reduce(1, 0) = 2",
                "fact(0, 1, 5, 0) = 2", "reduce(1, 0) = 1", "show(1) = +5", "fact(0, 1, 2, 2) = 0", "reduce(1, 0) = 2",
                "reduce(1, 2) = 0");
        Script.due("'FINAL .. REDUCED has just one TERM, all of whose BRACKETS .. aren't 0 by FACTS'",
                "tell(0, [abe][acd]-[abd][ace]+[abc][ade]) = 3", "fact(0, 1, 4, 1) = 2", "fact(0, 2, 3, 1) = 2",
                "isFinal(0) = 0", "fact(0, 1, 3, 0) = 2", "isFinal(0) = 0", "fact(0, 3, 4, 0) = 2", "isFinal(0) = 1",
                "fact(0, 1, 4, 2) = 1", "isFinal(0) = 0", "fact(0, 1, 4, 0) = 2", "isFinal(0) = 0",
                "fact(0, 1, 4, 1) = 0", "fact(0, 2, 3, 2) = 1", "isFinal(0) = 0", "fact(0, 2, 3, 1) = 2",
                "isFinal(0) = 1", "fact(0, 3, 4, 1) = 0", "isFinal(0) = 0");
        Script.due("'FINAL is a POLYNOMIAL that is EQUAL to 0'", "tell(0, [abe][acd]-[abd][ace]+[abc][ade]) = 3",
                "fact(0, 1, 4, 1) = 2", "fact(0, 2, 3, 1) = 2", "fact(0, 1, 3, 0) = 2", "fact(0, 3, 4, 0) = 2",
                "tell(1, [abe][acd]) = 1", "isFinal(1) = 0", "tell(1, [abe][acd]-[abd][ace]+2[abc][ade]) = 3",
                "isFinal(1) = 0", "tell(1, 7) = 1", "isFinal(1) = 0", "isFinal(2) = 0", "isFinal(0) = 1");
    }

    private static void undoneAndImages() {
        Script.due("'can be UNDONE each as a whole, the latest first, 10 at most (eldest are forgotten)'",
                "count(4) = 0", "9 x bracket(0, 0, 1, 2) = 1", "count(4) = 9", "bracket(1, 0, 1, 2) = 1",
                "count(4) = 10", "bracket(2, 0, 1, 2) = 1", "count(4) = 10", "undo(10) = 0", "terms(0) = 1",
                "terms(1) = 0", "undo(1) = -3");
        Script.due("'10 at most (eldest are forgotten)', all around more than once", "25 x add(0, 0, 1, 1, 1)",
                "tell(1, 1) = 1", "27 x add(0, 0, 1, 1, 1) = 1", "term(0, 0, 0) = 27", "undo(4) = 6",
                "term(0, 0, 0) = 23", "7 x add(0, 0, 1, 1, 2) = 1", "term(0, 0, 0) = 37", "count(4) = 10",
                "undo(8) = 2", "term(0, 0, 0) = 22", "undo(2) = 0", "term(0, 0, 0) = 20", "undo(1) = -3");
        Script.due("'all that answer so and aren't refused', each of these calls", "load([abc])", "told(0, 5) = 1",
                "count(4) = 1", "load(abd)", "figure(1, 3) = 1", "count(4) = 2", "clear(5) = 0", "count(4) = 3",
                "copy(2, 2) = 0", "count(4) = 4", "bracket(2, 0, 0, 0) = 0", "count(4) = 5", "exchange(3, 0, 0, 1) = 0",
                "count(4) = 6", "add(3, 0, 0, 0, 0) = 0", "count(4) = 7", "times(3, 3, 3) = 0", "count(4) = 8",
                "put(3, 3, 0, 0) = 0", "count(4) = 9", "undo(9) = 0", "count(0) = 0", "turn(3, 3, 0, 0) = 0",
                "count(4) = 1", "straight(3, 3) = 0", "count(4) = 2", "reduce(3, 3) = 0", "count(4) = 3",
                "fact(0, 1, 2, 2) = 2", "count(4) = 4", "place(0, 0, 0, 0) = 0", "count(4) = 5");
        Script.due("'all that answer so', the others aren't UNDONE", "tell(0, [abc]) = 1", "count(4) = 1",
                "feed(0, 0, 0, 0, 0) = 20", "fault(0)", "why()", "terms(0)", "term(0, 0, 0)", "degree(0, 0)",
                "steps(0)", "left(0)", "equal(0, 0)", "forms(0)", "form(0, 0, 0)", "rank(1)", "factor(0, 0)",
                "isFinal(0)", "known(0, 1, 2)", "at(0, 0)", "worth(0, 1, 2)", "value(0)", "image(0)", "count(0)",
                "undo(0) = -3", "count(4) = 1");
        Script.due("'all but THE TAPE, the FAULT and why()'", "tell(0, [abc]) = 1", "tell(1, [abc][abc][abc]) = 1",
                "tell(2, [abk]) = -31", "times(3, 1, 1) = -4", "load([abd])", "undo(2) = 0", "count(3) = 20",
                "fault(0) = 1", "fault(1) = 3", "why() = 2", "count(0) = 0", "told(0, 5) = 1", "undo(1) = 0",
                "count(3) = 0", "fault(0) = 0");
        Script.due("'IMAGES 0 to 1: the same (none at first)'", "restore(0) = -6", "restore(1) = -6", "image(1) = 0",
                "restore(0) = -6", "restore(1) = 0", "image(2) = -2", "image(-1) = -2", "restore(2) = -2",
                "restore(-1) = -2", "image(0) = 0", "restore(0) = 0");
        Script.due("'IMAGES .. the same': all but THE TAPE, the FAULT and why()", "tell(0, [abc]) = 1",
                "fact(0, 1, 2, 1) = 2", "place(3, 1, 2, 3) = 0", "image(0) = 0", "tell(0, [abc][abc][abc]) = 1",
                "fact(0, 1, 2, 0) = 1", "place(3, 3, 2, 1) = 0", "tell(2, [abk]) = -31", "times(3, 0, 0) = -4",
                "load([abd])", "restore(0) = 0", "show(0) = +1[abc]", "known(0, 1, 2) = 1", "at(3, 0) = 1",
                "count(3) = 20", "fault(1) = 3", "why() = 2");
        Script.due("'nothing can be UNDONE behind'", "3 x bracket(0, 0, 1, 2) = 1", "image(0) = 0", "count(4) = 3",
                "undo(1) = 2", "restore(0) = 0", "count(4) = 0", "undo(1) = -3", "clear(0) = 1", "count(4) = 1",
                "undo(1) = 0", "terms(0) = 1", "undo(1) = -3");
    }

    // ---- refused calls

    /** A desk that has something of all that there is: two shelves that can't be straight, nine calls to undo. */
    private static Script filled(String sentence) {
        return new Script(sentence).rows("least(0, [abe][acd])", "many(1, 0, 80)", "tell(2, " + STEPS_901 + ")",
                "image(0)", "clear(5)", "tell(3, [abc][abc][abc])", "fact(0, 1, 2, 0)", "fact(3, 4, 5, 1)",
                "place(3, 4, -5, 6)", "image(1)", "tell(4, [abk])", "load([abc])");
    }

    private static void refusedOnes() {
        String sentence = "'Refused calls answer by a code and change nothing'";
        String[] rows = { "told(6, 5) = -2", "told(0, -1) = -3", "told(0, 21) = -3", "figure(6, 3) = -2",
            "figure(0, -1) = -3", "figure(0, 21) = -3", "clear(6) = -2", "copy(0, 6) = -2", "copy(6, 0) = -2",
            "bracket(6, 0, 1, 2) = -2", "bracket(0, 0, 1, 10) = -2", "exchange(6, 12, 34, 1) = -2",
            "exchange(0, 12, 34, 4) = -3", "add(6, 0, 1, 1, 1) = -2", "add(0, 1, 100, 1, 1) = -3",
            "add(5, 1, 1, 2, 1) = -4", "add(5, 0, 1, 0, 1) = -7", "times(6, 0, 0) = -2", "times(0, 3, 3) = -4",
            "times(1, 1, 1) = -4", "times(1, 0, 0) = -7", "put(6, 1, 0, 1) = -2", "put(1, 1, 0, 10) = -2",
            "put(1, 0, 1, 9) = -7", "turn(6, 1, 0, 1) = -2", "turn(1, 1, 10, 1) = -2", "turn(1, 0, 2, 3) = -7",
            "straight(6, 1) = -2", "straight(1, 0) = -7", "straight(1, 2) = -4", "reduce(6, 1) = -2",
            "reduce(1, 6) = -2", "fact(10, 4, 5, 0) = -2", "fact(3, 4, 5, 3) = -3", "fact(3, 3, 5, 0) = -3",
            "place(10, 1, 1, 1) = -2", "place(3, 1, 100, 1) = -3", "terms(6) = -2", "degree(6, 0) = -2",
            "degree(1, 10) = -2", "steps(0) = -7", "steps(2) = -4", "left(0) = -7", "left(2) = -4", "equal(0, 1) = -7",
            "equal(1, 2) = -4", "forms(6) = -2", "form(0, -1, 0) = -3", "rank(64) = -2", "rank(1) = -7", "rank(4) = -4",
            "factor(0, 7) = -2", "factor(2, 0) = -4", "isFinal(0) = -7", "isFinal(2) = -4", "known(0, 0, 1) = -3",
            "undo(0) = -3", "undo(11) = -3", "image(2) = -2", "restore(2) = -2", "fault(2) = -1", "count(6) = -1" };
        for (String row : rows) {
            filled(sentence).refused(row);
        }
        filled(sentence).rows("14 x feed(0, 0, 0, 0, 0) = 300").refused("feed(0, 0, 0, 0, 0) = -4")
                .rows("told(0, 5) = 1");
        new Script(sentence).rows("bracket(0, 0, 1, 2)").refused("restore(0) = -6").rows("undo(1) = 0");
        new Script(sentence).rows("3 x bracket(0, 0, 1, 2)").refused("undo(4) = -3").rows("undo(3) = 0");
        filled(sentence).rows("told(5, 0) = 0", "load(((ab^cd)(ef^gh)^(ai^bj)(ce^df))gh)")
                .refused("figure(0, 33) = -4").rows("why() = 2", "count(3) = 40", "fault(0) = 0");
        Script.due("'-30 less the FAULT: a text (THE TAPE is empty then; nothing else changes)'",
                "tell(0, [abc]) = 1", "load([abk])", "told(0, 5) = -31", "count(3) = 0", "count(4) = 1",
                "show(0) = +1[abc]", "load(12345)", "told(0, 5) = -32", "count(3) = 0",
                "load([abc][abc][abc][abc][abc])", "told(0, 25) = -33", "count(3) = 0", "load((((ab^cd)ef)",
                "figure(0, 12) = -34", "count(3) = 0", "count(4) = 1", "show(0) = +1[abc]", "load([abk])",
                "told(0, 0) = 0", "count(3) = 0");
    }

    private static void codesInOrder() {
        Script.due("'Of several that which the call tells first', texts", "load([abk])", "told(6, 21) = -2",
                "told(-1, -1) = -2", "told(6, 5) = -2", "told(0, 21) = -3", "figure(6, -1) = -2", "figure(6, 3) = -2",
                "figure(0, 21) = -3", "count(3) = 20", "fault(0) = 0", "told(0, 5) = -31");
        Script.due("'Of several that which the call tells first', shelves", "exchange(6, 1000, 1000, 4) = -2",
                "add(6, 0, 100, 0, 0) = -2", "add(0, 6, 0, 0, 100) = -2", "add(0, 0, -100, 6, 0) = -2",
                "fact(10, 1, 1, 3) = -2", "fact(1, 1, 10, 3) = -2", "fact(1, 1, 2, 3) = -3",
                "place(10, 100, 0, 0) = -2", "place(-1, 0, 0, -100) = -2", "known(1, 1, 10) = -2", "restore(2) = -2");
        filled("'Of several that which the call tells first', ahead of -4 and -7").rows("times(6, 3, 3) = -2",
                "times(3, 1, 6) = -2", "add(6, 1, 1, 2, 1) = -2", "add(5, 1, 1, 2, 100) = -3",
                "add(5, 0, 99, 0, -100) = -3", "put(6, 0, 1, 9) = -2", "put(5, 0, 10, 9) = -2",
                "turn(6, 0, 2, 3) = -2", "turn(5, 0, 2, 10) = -2", "straight(6, 0) = -2", "equal(0, 6) = -2",
                "equal(6, 2) = -2", "rank(127) = -2", "factor(2, 7) = -2", "why() = 0");
        filled("'-4, -7 as it is met first'").rows("equal(0, 2) = -7", "why() = 4", "equal(2, 0) = -4", "why() = 3",
                "rank(5) = -7", "why() = 4", "rank(7) = -7", "rank(6) = -4", "why() = 3", "copy(5, 0) = 1",
                "rank(36) = -4", "why() = 3", "rank(33) = -7", "rank(32) = -7", "rank(2) = 1", "why() = 0");
        Script.due("'all these ahead of NONE'", "degree(0, 0) = -1", "degree(0, 10) = -2", "degree(6, 0) = -2",
                "forms(0) = -1", "forms(6) = -2", "form(0, 0, 0) = -1", "form(0, -1, 0) = -3", "form(0, 0, -1) = -3",
                "form(6, -1, -1) = -2", "tell(0, [abc]) = 1", "form(0, -1, 99) = -3", "form(0, 99, -1) = -3",
                "form(0, 99, 99) = -1");
    }
}
