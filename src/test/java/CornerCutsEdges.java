import java.nio.file.Files;
import java.nio.file.Path;

/**
 * One test for each sentence of the document that names a boundary: too small, too large, empty,
 * full, a wrap-around, a refused call. Each names its promise (0 for the Terms) and the sentence.
 * With the path of the document as an argument it is also checked that it has each sentence there.
 */
public final class CornerCutsEdges {
    private static final int MIN = Integer.MIN_VALUE;
    private static final int MAX = Integer.MAX_VALUE;
    private static final int LAST_PROMISE = 45;
    private static final int[] tested = new int[LAST_PROMISE + 1];
    private static String[] document = null;
    private static String where = "";
    private static int promise = 0;
    private static int wrong = 0;

    public static void main(String[] args) throws Exception {
        if (args.length > 0) {
            document = Files.readString(Path.of(args[0])).split("\n## Promise \\d+: ");
        }
        termsOfRows();
        termsOfTheGroup();
        termsOfWalks();
        termsOfRefusals();
        termsOfTexts();
        termsOfFunctions();
        termsOfFaults();
        termsOfPairs();
        termsOfColumnsAndTable();
        promises1To4();
        promises5To7();
        promises8And9();
        promise10();
        promise11();
        promises12To14();
        promise15();
        promises16And17();
        promises18To20();
        promises21To25();
        promises26To28();
        promises29And30();
        promises31And32();
        promise33();
        promises34And35();
        promises36And37();
        promises38To40();
        promises41To43();
        promise44();
        promise45();
        lastCall();
        for (int p = 0; p <= LAST_PROMISE; p++) {
            if (tested[p] == 0) {
                fail("promise " + p + " has no test");
            }
        }
        System.out.println(wrong == 0 ? "all edges hold" : wrong + " answers are not as due");
        if (wrong != 0) {
            System.exit(1);
        }
    }

    // ------------------------------------------------------------------ the form of the tests

    private static void fail(String what) {
        wrong++;
        System.out.println(what);
    }

    /** Begins the test of one sentence. */
    private static void says(int number, String sentence) {
        promise = number;
        where = (number == 0 ? "terms" : "promise " + number) + " [" + sentence + "]: ";
        if (document != null && !document[number].replace('\n', ' ').contains(sentence)) {
            fail(where + "the document does not say so");
        }
    }

    private static void due(String call, long got, long want) {
        tested[promise]++;
        if (got != want) {
            fail(where + call + " answered " + got + ", due is " + want);
        }
    }

    private static void due(String call, boolean got, boolean want) {
        due(call, got ? 1 : 0, want ? 1 : 0);
    }

    private static void due(String call, String got, String want) {
        tested[promise]++;
        if (!got.equals(want)) {
            fail(where + call + " answered\n  " + got + "\n, due is\n  " + want);
        }
    }

    /** A call that was just refused, for this reason and no other. */
    private static void refused(CornerCuts x, String call, int got, int want) {
        due(call, got, want);
        due("status() behind " + call, x.status(), want);
    }

    /** Puts a text on the tape in place of all. */
    private static void type(CornerCuts x, String t) {
        x.end(0);
        for (int i = 0; i < t.length(); i += 20) {
            int[] f = new int[5];
            for (int j = 0; j < 20; j++) {
                int b = i + j < t.length() ? t.charAt(i + j) : 'q';
                f[j / 4] |= b << (24 - 8 * (j % 4));
            }
            x.feed(f[0], f[1], f[2], f[3], f[4]);
        }
        x.end(t.length());
    }

    private static int cut(CornerCuts x, String t) {
        type(x, t);
        return x.cut();
    }

    private static String onTape(CornerCuts x) {
        StringBuilder t = new StringBuilder();
        int length = x.count(5);
        for (int i = 0; i < length; i++) {
            t.append((char) x.tape(i));
        }
        return t.toString();
    }

    private static String values(CornerCuts x, int cut) {
        StringBuilder t = new StringBuilder();
        int size = x.count(3);
        for (int e = 0; e < size; e++) {
            t.append(e == 0 ? "" : " ").append(x.value(cut, e));
        }
        return t.toString();
    }

    private static String tabled(CornerCuts x, int i) {
        StringBuilder t = new StringBuilder();
        int size = x.count(3);
        for (int e = 0; e < size; e++) {
            t.append(e == 0 ? "" : " ").append(x.tabled(i, e));
        }
        return t.toString();
    }

    private static void bases(CornerCuts x, int... numbers) {
        int m = x.count(0);
        for (int i = 0; i < numbers.length; i++) {
            x.basis(i / m, i % m, numbers[i]);
        }
    }

    /** One row, a basis of one number, a right side. */
    private static CornerCuts cyclic(int d, int right) {
        CornerCuts x = new CornerCuts();
        x.rows(1);
        x.basis(0, 0, d);
        x.right(0, right);
        return x;
    }

    private static CornerCuts square(int... numbers) {
        CornerCuts x = new CornerCuts();
        bases(x, numbers);
        return x;
    }

    private static CornerCuts cube(int... numbers) {
        CornerCuts x = new CornerCuts();
        x.rows(3);
        bases(x, numbers);
        return x;
    }

    /** Rests by 5, goal 3, two columns, two cuts, an image, a fault, a tape. */
    private static CornerCuts rich() {
        CornerCuts x = cyclic(5, 3);
        x.column(1, 0, 0, 4);
        x.column(2, 0, 0, 3);
        cut(x, "gmi 1");
        cut(x, "told 0 1 1 9 9");
        x.image(0);
        cut(x, "gmi 1 1");
        type(x, "frac 2");
        return x;
    }

    /** No group, with a column and what can be undone. */
    private static CornerCuts groupless() {
        CornerCuts x = cyclic(5, 3);
        x.column(1, 0, 0, 4);
        x.basis(0, 0, 0);
        return x;
    }

    /** Eight cuts, six columns. */
    private static CornerCuts full() {
        CornerCuts x = cyclic(5, 3);
        for (int k = 0; k < 6; k++) {
            x.column(k, 0, 0, k);
        }
        for (int i = 0; i < 8; i++) {
            cut(x, "told 0 1 1 " + (i + 1) + " 9");
        }
        return x;
    }

    /** All that can be asked but what is told of refused calls, in fewer than a hundred calls. */
    private static String all(CornerCuts x) {
        StringBuilder t = new StringBuilder();
        for (int i = 0; i < 23; i++) {
            t.append(i < 6 || i > 10 ? x.count(i) : 0).append(' ');
        }
        t.append(onTape(x)).append(' ').append(x.fault()).append(' ').append(x.determinant());
        for (int k = -1; k < x.count(1); k++) {
            t.append(" g").append(x.goal(k));
        }
        for (int i = 0; i < 9; i++) {
            t.append(" w").append(x.walk(i));
        }
        t.append(' ').append(x.whole(0));
        int size = x.count(3);
        for (int e = 0; e < size; e++) {
            t.append(" f").append(x.far(e, 0));
        }
        int cuts = x.count(2);
        for (int c = 0; c < cuts; c++) {
            t.append(" v").append(values(x, c)).append(" b").append(x.bound(c, 0)).append(' ').append(x.bound(c, 1));
        }
        t.append(" t").append(x.table(0)).append(' ').append(x.tightest());
        return t.toString();
    }

    // ------------------------------------------------------------------ Terms

    private static void termsOfRows() {
        says(0, "m ROWS, 1 .. 3 (2 at first).");
        CornerCuts x = new CornerCuts();
        due("count(0)", x.count(0), 2);
        refused(x, "rows(0)", x.rows(0), -1);
        due("rows(1)", x.rows(1), 1);
        due("rows(3)", x.rows(3), 3);
        refused(x, "rows(4)", x.rows(4), -1);
        due("count(0)", x.count(0), 3);

        says(0, "The BASIS: m by m NUMBERS -9 .. 9 (at first 1 where row and column are alike, else 0).");
        for (int m = 1; m <= 3; m++) {
            x.rows(m);
            for (int i = 0; i < 9; i++) {
                int want = i / 3 >= m || i % 3 >= m ? -1 : i / 3 == i % 3 ? 1 : 0;
                due("rows " + m + ": count(" + (14 + i) + ")", x.count(14 + i), want);
            }
            refused(x, "basis -10", x.basis(m - 1, m - 1, -10), -1);
            refused(x, "basis 10", x.basis(m - 1, m - 1, 10), -1);
            due("basis -9", x.basis(m - 1, m - 1, -9), 1);
            due("basis 9", x.basis(m - 1, m - 1, 9), -9);
        }

        says(0, "The RIGHT SIDE: m NUMBERS -99 .. 99 (0 at first).");
        for (int m = 1; m <= 3; m++) {
            x.rows(m);
            for (int i = 0; i < 3; i++) {
                due("rows " + m + ": count(" + (11 + i) + ")", x.count(11 + i), i < m ? 0 : -1);
            }
            refused(x, "right -100", x.right(m - 1, -100), -1);
            refused(x, "right 100", x.right(m - 1, 100), -1);
            due("right -99", x.right(m - 1, -99), 0);
            due("right 99", x.right(m - 1, 99), -99);
        }

        says(0, "COLUMNS 0 .. 5, as they come: m NUMBERS -99 .. 99, a COST 0 .. 99.");
        x.rows(3);
        refused(x, "column of -100", x.column(-100, 0, 0, 0), -1);
        refused(x, "column of 100", x.column(0, 0, 100, 0), -1);
        refused(x, "column of cost -1", x.column(0, 0, 0, -1), -1);
        refused(x, "column of cost 100", x.column(0, 0, 0, 100), -1);
        due("column(-99, -99, -99, 0)", x.column(-99, -99, -99, 0), 0);
        due("column(99, 99, 99, 99)", x.column(99, 99, 99, 99), 1);
        for (int k = 2; k < 6; k++) {
            due("column()", x.column(0, 0, 0, 0), k);
        }
        refused(x, "a seventh column", x.column(0, 0, 0, 0), -5);
    }

    private static void termsOfTheGroup() {
        says(0, "There is a GROUP, if D is 1 .. 24.");
        int[][] bases = {{0, 0, 0, 0}, {2, 4, 1, 2}, {1, 0, 0, 1}, {0, 1, 1, 0}, {4, 0, 0, 6}, {0, 4, 6, 0},
            {5, 0, 0, 5}, {0, 5, 5, 0}, {9, 9, -9, 9}};
        int[] sizes = {0, 0, 1, 1, 24, 24, 0, 0, 0};
        for (int i = 0; i < bases.length; i++) {
            CornerCuts x = square(bases[i]);
            due("count(3) by D " + x.determinant(), x.count(3), sizes[i]);
            due("goal(-1) by D " + x.determinant(), x.goal(-1), sizes[i] == 0 ? -1 : 0);
        }

        says(0, "two are the same ELEMENT, if they differ by whole multiples of the BASIS's columns, together.");
        CornerCuts x = square(2, 0, 1, 4);
        due("element(0, 0)", x.element(0, 0, 0), 0);
        due("element(2, 1)", x.element(2, 1, 0), 0);
        due("element(-2, -1)", x.element(-2, -1, 0), 0);
        due("element(0, 4)", x.element(0, 4, 0), 0);
        due("element(0, -4)", x.element(0, -4, 0), 0);
        due("element(2, 5)", x.element(2, 5, 0), 0);
        due("element(1, 3)", x.element(1, 3, 0), 7);
        due("element(-1, -2)", x.element(-1, -2, 0), 7);
        due("element(2, 0)", x.element(2, 0, 0), 3);
        x = cube(2, 0, 0, 1, 2, 0, 2, 1, 3);
        due("the first column", x.element(2, 1, 2), 0);
        due("the first column less than none", x.element(-2, -1, -2), 0);
        due("the second column", x.element(0, 2, 1), 0);
        due("the third column", x.element(0, 0, 3), 0);
        due("all three", x.element(2, 3, 6), 0);
        due("the last", x.element(1, 1, 2), 11);
        due("the last by the first column", x.element(-1, 0, 0), 11);
        due("the last by the second column", x.element(1, -1, 1), 11);
        due("the last twice: (2, 2, 4) less the first is (0, 1, 2)", x.plus(11, 11), 5);

        says(0, "above the diagonal 0, on it above 0, left of it in each row 0 or more, but below the one on the "
            + "diagonal.");
        hermite(square(-2, 0, 9, -4), 2, 0, 3, 4);
        hermite(square(2, 0, 4, 4), 2, 0, 0, 4);
        hermite(square(2, 0, -1, 4), 2, 0, 3, 4);
        hermite(square(2, 0, 3, 4), 2, 0, 3, 4);
        hermite(square(2, 1, 0, 4), 1, 0, 4, 8);
        hermite(square(0, -3, 3, 0), 3, 0, 0, 3);
        hermite(cube(1, 0, 0, 5, 2, 0, -7, 9, -3), 1, 0, 0, 1, 2, 0, 2, 0, 3);

        says(0, "that of it in which NUMBER i is 0 or more and below the i-th one of the diagonal.");
        x = square(2, 0, 1, 4);
        for (int e = 0; e < 8; e++) {
            due("least(" + e + ", 0)", x.least(e, 0), e / 4);
            due("least(" + e + ", 1)", x.least(e, 1), e % 4);
        }

        says(0, "ELEMENTS 0 .. D-1 by their LEAST ROWS, by the first NUMBER, then the second, then the third.");
        x = cube(2, 0, 0, 0, 3, 0, 0, 0, 4);
        due("element(0, 0, 0)", x.element(0, 0, 0), 0);
        due("element(0, 0, 3)", x.element(0, 0, 3), 3);
        due("element(0, 1, 0)", x.element(0, 1, 0), 4);
        due("element(1, 0, 0)", x.element(1, 0, 0), 12);
        due("element(1, 2, 3)", x.element(1, 2, 3), 23);
        due("element(-1, -1, -1)", x.element(-1, -1, -1), 23);

        says(0, "GOAL: the ELEMENT of the RIGHT SIDE.");
        int[] rights = {-99, -6, -5, -1, 0, 4, 5, 99};
        int[] goals = {1, 4, 0, 4, 0, 4, 0, 4};
        for (int i = 0; i < rights.length; i++) {
            due("goal(-1) by " + rights[i], cyclic(5, rights[i]).goal(-1), goals[i]);
        }
        x = cube(2, 0, 0, 0, 3, 0, 0, 0, 4);
        x.right(0, -99);
        x.right(1, 98);
        x.right(2, -97);
        due("three rows", x.goal(-1), 12 + 8 + 3);

        says(0, "INVARIANTS: the m numbers above 0, each a divisor of the next, so that the GROUP is that of rests "
            + "by them (1 first, if need be).");
        invariants(cyclic(-7, 0), 7);
        invariants(cyclic(1, 0), 1);
        invariants(square(1, 0, 0, 1), 1, 1);
        invariants(square(2, 0, 0, 3), 1, 6);
        invariants(square(2, 0, 0, -2), 2, 2);
        invariants(square(4, 0, 0, 6), 2, 12);
        invariants(cube(1, 0, 0, 0, 1, 0, 0, 0, 1), 1, 1, 1);
        invariants(cube(5, 0, 0, 0, 1, 0, 0, 0, 1), 1, 1, 5);
        invariants(cube(2, 0, 0, 0, 3, 0, 0, 0, 4), 1, 2, 12);
        invariants(cube(2, 0, 0, 0, 2, 0, 0, 0, 2), 2, 2, 2);
    }

    private static void hermite(CornerCuts x, int... want) {
        int m = x.count(0);
        for (int i = 0; i < want.length; i++) {
            due("hermite(" + i / m + ", " + i % m + ")", x.hermite(i / m, i % m), want[i]);
        }
    }

    private static void invariants(CornerCuts x, int... want) {
        for (int i = 0; i < want.length; i++) {
            due("invariant(" + i + ")", x.invariant(i), want[i]);
        }
        due("invariant(" + want.length + ")", x.invariant(want.length), -1);
    }

    private static void termsOfWalks() {
        says(0, "A WALK: how many times each COLUMN is taken (all 0, too), the ELEMENTS of all that are taken are "
            + "together GOAL");
        CornerCuts x = cyclic(5, 0);
        due("walk(1) without columns, goal 0", x.walk(1), 0);
        x.right(0, 1);
        due("walk(1) without columns, goal 1", x.walk(1), -1);
        x.column(3, 0, 0, 1);
        due("walk(1): 3 and 3 wrap around to 1", x.walk(1), 2);

        says(0, "The SHORTEST one: least COST, of like ones fewest STEPS, of like ones that with most of COLUMN 0, "
            + "then of 1, and on.");
        x = cyclic(9, 4);
        x.column(4, 0, 0, 9);
        x.column(2, 0, 0, 4);
        due("less cost, more steps", 10 * x.walk(2) + x.walk(3), 2);
        x.cost(0, 8);
        due("like cost, fewer steps", 10 * x.walk(2) + x.walk(3), 10);
        x.drop(0);
        x.column(1, 0, 0, 4);
        x.column(3, 0, 0, 4);
        due("like steps, most of column 0", 100 * x.walk(2) + 10 * x.walk(3) + x.walk(4), 200);
        x = cyclic(9, 4);
        x.column(0, 0, 0, 0);
        x.column(1, 0, 0, 4);
        x.column(2, 0, 0, 4);
        x.column(3, 0, 0, 4);
        due("none of column 0, most of 1", 100 * x.walk(3) + 10 * x.walk(4) + x.walk(5), 101);
        due("none of column 0, most of 1", x.walk(2), 0);

        says(0, "BASICS of a WALK: the m NUMBERS y so that BASIS times y is RIGHT SIDE less all COLUMNS that are taken "
            + "(whole ones, as it is a WALK).");
        x = cube(2, 0, 0, 1, 2, 0, 2, 1, 3);
        x.right(0, 1);
        x.right(1, 9);
        x.right(2, -7);
        x.column(1, 0, 0, 1);
        x.column(0, 0, 2, 1);
        x.column(0, 1, 4, 1);
        // but for multiples the right side is (1, 1, 1), column 2 is (0, 1, 1)
        due("COLUMNS 0 and 2", 100 * x.walk(2) + 10 * x.walk(3) + x.walk(4), 101);
        // (0, 8, -11) is left
        due("basic(0)", x.basic(0), 0);
        due("basic(1)", x.basic(1), 4);
        due("basic(2)", x.basic(2), -5);
        due("no POINT", x.walk(8), 0);
        x.right(2, 8);
        due("basic(2)", x.basic(2), 0);
        due("a POINT", x.walk(8), 1);

        says(0, "It is a POINT, if none is below 0.");
        x = square(1, 0, 0, 1);
        due("walk(8): 0 and 0", x.walk(8), 1);
        x.right(1, -1);
        due("walk(8): 0 and -1", x.walk(8), 0);
        due("basic(1)", x.basic(1), -1);
        x.right(0, 99);
        due("walk(8): 99 and -1", x.walk(8), 0);
        x.right(1, 0);
        due("walk(8): 99 and 0", x.walk(8), 1);

        says(0, "WHOLE: of all WALKS of 8 STEPS at most that are POINTS the SHORTEST.");
        x = cyclic(9, -8);
        x.column(-1, 0, 0, 0);
        due("eight steps", x.whole(1), 8);
        x.right(0, -9);
        due("nine steps, no cost", x.whole(1), -1);
        x.column(-9, 0, 0, 99);
        due("one dear step", x.whole(0), 99);
        x.column(-9, 0, 0, 99);
        due("most of column 1", 10 * x.whole(3) + x.whole(4), 10);
        x = cyclic(6, 4);
        x.column(2, 0, 0, 9);
        x.column(10, 0, 0, 1);
        due("the SHORTEST is no POINT", 10 * x.walk(2) + x.walk(3), 1);
        due("a dearer one is", 10 * x.whole(2) + x.whole(3), 20);
    }

    private static void termsOfRefusals() {
        says(0, "The first of these in that order.");
        CornerCuts x = full();
        refused(x, "cost(6, 100): -1 ahead of -2", x.cost(6, 100), -1);
        refused(x, "cost(6, 99)", x.cost(6, 99), -2);
        refused(x, "column: -1 ahead of -5", x.column(100, 0, 0, 0), -1);
        refused(x, "cut: -5 ahead of -6", cut(x, "none"), -5);
        refused(x, "back(2): -1 ahead of -4", x.back(2), -1);
        x = groupless();
        refused(x, "cut: -4 ahead of -6", cut(x, "none"), -4);

        says(0, "What is REFUSED changes nothing but what is told of it.");
        x = rich();
        String before = all(x);
        x.rows(0);
        x.basis(0, 0, 10);
        x.basis(1, 0, 1);
        x.right(0, 100);
        x.right(1, 1);
        x.column(100, 0, 0, 0);
        x.column(0, 0, 0, 100);
        x.cost(0, 100);
        x.image(2);
        x.back(-1);
        due("ten by -1: all", all(x), before);
        due("ten by -1: count(6)", x.count(6), 10);
        x.cost(2, 1);
        x.drop(2);
        x.listing(2);
        due("three by -2: all", all(x), before);
        due("three by -2: count(7)", x.count(7), 3);
        x.back(1);
        due("one by -4: all", all(x), before);
        due("one by -4: count(8)", x.count(8), 1);
        x = full();
        type(x, "gmi 1");
        before = all(x);
        x.column(0, 0, 0, 0);
        x.cut();
        due("two by -5: all", all(x), before);
        due("two by -5: count(9)", x.count(9), 2);
        x = new CornerCuts();
        before = all(x);
        x.uncut();
        x.undo();
        due("two by -4: all", all(x), before);
        due("two by -4: count(8)", x.count(8), 2);
    }

    private static void termsOfTexts() {
        says(0, "CUTS 0 .. 7, as they come, each with a FUNCTION; SCALE: the VALUE of GOAL, above 0.");
        CornerCuts x = cyclic(5, 3);
        for (int i = 0; i < 8; i++) {
            due("cut()", cut(x, "told 0 0 0 " + (i + 1) + " 0"), i);
            due("value(" + i + ", -1)", x.value(i, -1), i + 1);
        }
        refused(x, "a ninth cut", cut(x, "gmi 1"), -5);
        x.uncut();
        refused(x, "told 9 9 9 0 9", cut(x, "told 9 9 9 0 9"), -4);

        says(0, "Whenever m, the BASIS, the RIGHT SIDE become others, all CUTS go.");
        x = rich();
        x.basis(0, 0, 5);
        x.right(0, 3);
        x.column(4, 0, 0, 1);
        x.cost(0, 5);
        x.drop(1);
        due("count(2): all alike", x.count(2), 2);
        x.right(0, 8);
        due("count(2): another right side, the same goal", x.count(2), 0);
        x.undo();
        x.basis(0, 0, -5);
        due("count(2): another basis, the same group", x.count(2), 0);
        x.undo();
        due("count(2): undone", x.count(2), 2);
        x.rows(2);
        due("count(2): other rows", x.count(2), 0);

        says(0, "WORD {INT}: WORDS of letters a .. z, INTS of digits, a - right ahead of them, if one likes, "
            + "blanks (32) between or not.");
        x = square(5, 0, 0, 1);
        x.right(0, 3);
        String[] good = {"gmi 1 0", "gmi1 0", "gmi 1-0", "gmi1-0", "gmi   1   0", "gmi-1-1", "gmi 1 -0", "gmi001 00"};
        for (String t : good) {
            due("cut() of [" + t + "]", cut(x, t), 0);
            x.uncut();
        }
        fault(x, "gmi 10", 4);
        fault(x, "gm i 1 0", 0);
        fault(x, "gmi 1 - 1", 6);
        fault(x, "gmi 1 --1", 6);
        fault(x, "gmi 1 +1", 6);
        fault(x, "gmi`1 0", 3);
        fault(x, "gmi{1 0", 3);
        fault(x, "gmiz 1 0", 0);
        fault(x, "gmia 1 0", 0);
        fault(x, "zgmi 1 0", 0);
        fault(x, "gmi 1z0", 5);
        fault(x, "gmi 1/0", 5);
        fault(x, "gmi 1:0", 5);
        fault(x, "gmi\t1 0", 3);
        fault(x, "gmi 1!0", 5);
        fault(x, "gmi 1\n0", 5);
        fault(x, "gmi 1\0", 5);
        fault(x, "gmi 1\u00a00", 5);
        fault(x, "Gmi 1 0", 0);
    }

    /** A text that can't be read, with the place of the token. */
    private static void fault(CornerCuts x, String t, int place) {
        due("cut() of [" + t + "]", cut(x, t), -6);
        due("fault() of [" + t + "]", x.fault(), place);
    }

    private static void termsOfFunctions() {
        says(0, "PART by multipliers u (m INTS -9 .. 9)");
        CornerCuts x = cyclic(5, 3);
        due("frac 9", cut(x, "frac 9"), 0);
        due("values by 9", values(x, 0), "0 4 3 2 1");
        due("frac -9", cut(x, "frac -9"), 1);
        due("values by -9", values(x, 1), "0 1 2 3 4");
        fault(x, "frac 10", 5);
        fault(x, "frac -10", 5);
        fault(x, "gmi 10", 4);
        fault(x, "gmi -10", 4);
        fault(x, "step 1 10", 7);
        fault(x, "step 1 -10", 7);
        CornerCuts y = cube(1, 0, 0, 0, 1, 0, 0, 0, 5);
        y.right(2, 3);
        due("frac 9 -9 9", cut(y, "frac 9 -9 9"), 0);
        due("values by 9", values(y, 0), "0 4 3 2 1");
        fault(y, "frac 1 1", 8);
        fault(y, "frac 1 1 10", 9);
        fault(y, "frac 1 1 1 1", 11);

        says(0, "of an ELEMENT the rest (0 .. D-1) by D of D times u times y, y so that BASIS times y is its LEAST "
            + "ROW.");
        y = square(0, 3, 2, 1);
        // y of (1, 0) is (-1/6, 1/3), y of (0, 1) is (1/2, 0)
        y.right(0, 1);
        cut(y, "frac 1 0");
        cut(y, "frac 0 1");
        cut(y, "frac -1 0");
        cut(y, "frac 1 1");
        int[] parts = {5, 2, 1, 1};
        for (int i = 0; i < 4; i++) {
            due("PART of (1, 0) by text " + i, y.value(i, y.element(1, 0, 0)), parts[i]);
        }
        due("PART of (0, 1) by 1 0", y.value(0, y.element(0, 1, 0)), 3);
        due("PART of (0, 1) by 0 1", y.value(1, y.element(0, 1, 0)), 0);
        y = cube(2, 0, 0, 1, 2, 0, 2, 1, 3);
        y.right(0, 1);
        cut(y, "frac 1 -2 5");
        due("three rows", values(y, 0), "0 8 4 2 10 6 9 5 1 11 7 3");
        y = cyclic(-5, 3);
        cut(y, "frac 1");
        due("by a basis below 0", values(y, 0), "0 4 3 2 1");

        says(0, "VALUE is PART times (D less PIVOT), if PART is PIVOT at most, else (D less PART) times PIVOT.");
        x = cyclic(7, 1);
        cut(x, "gmi 1");
        due("PIVOT 1", values(x, 0), "0 6 5 4 3 2 1");
        cut(x, "gmi 3");
        due("PIVOT 3", values(x, 1), "0 12 3 8 6 4 9");
        cut(x, "gmi 6");
        due("PIVOT 6", values(x, 2), "0 6 5 4 3 2 1");

        says(0, "\"step\" t u (t 1 .. 23): as gmi, of the rests of t times PART, t times PIVOT by D.");
        x = cyclic(5, 3);
        due("step 1 1", cut(x, "step 1 1"), 0);
        due("values", values(x, 0), "0 2 4 6 3");
        due("step 23 1", cut(x, "step 23 1"), 1);
        due("values", values(x, 1), "0 3 1 4 2");
        fault(x, "step 0 1", 5);
        fault(x, "step 24 1", 5);
        fault(x, "step -1 1", 5);
        refused(x, "t times PIVOT is a multiple of D", cut(x, "step 20 1"), -4);

        says(0, "\"both\" i j: VALUES of CUTS i and j together.");
        due("both 0 1", cut(x, "both 0 1"), 2);
        due("values", values(x, 2), "0 5 5 10 5");
        due("both 2 2", cut(x, "both 2 2"), 3);
        due("values", values(x, 3), "0 10 10 20 10");
        fault(x, "both 0 4", 7);
        fault(x, "both 4 0", 5);
        fault(x, "both -1 0", 5);
        fault(x, "both 0 -1", 7);

        says(0, "(as many as one likes, each as often; none: ELEMENT 0)");
        x = cyclic(7, 6);
        cut(x, "told 5 1 9 9 9 9 9");
        due("hull 0", cut(x, "hull 0"), 1);
        due("values", values(x, 1), "0 1 2 3 4 5 6");
        cut(x, "told 5 2 9 9 9 9 9");
        due("hull 2", cut(x, "hull 2"), 3);
        due("values, of this CUT alone", values(x, 3), "0 2 4 6 8 9 9");
        cut(x, "told 5 0 9 9 9 9 9");
        refused(x, "hull of nothing", cut(x, "hull 4"), -4);
        fault(x, "hull 5", 5);
        fault(x, "hull -1", 5);

        says(0, "\"told\" v0 v1 ..: VALUES 0 .. 999 of all ELEMENTS.");
        x = cyclic(2, 1);
        due("told 0 999", cut(x, "told 0 999"), 0);
        due("values", values(x, 0), "0 999");
        fault(x, "told 0 1000", 7);
        fault(x, "told -1 1", 5);
        fault(x, "told 1", 6);
        fault(x, "told 1 2 3", 9);
        x = square(1, 0, 0, 1);
        due("told 7 of one element", cut(x, "told 7"), 0);
        due("told of 24", cut(square(4, 0, 0, 6), "told 1 2 3 4 5 6 7 8 9 10 11 12 13 14 15 16 17 18 19 20 21 22 23 24"),
            0);
        fault(square(4, 0, 0, 6), "told 1 2 3 4 5 6 7 8 9 10 11 12 13 14 15 16 17 18 19 20 21 22 23", 64);
    }

    private static void termsOfFaults() {
        says(0, "(the TAPE's length, if it ends too soon)");
        CornerCuts x = square(5, 0, 0, 1);
        x.right(0, 3);
        fault(x, "", 0);
        fault(x, "   ", 3);
        fault(x, "gmi", 3);
        fault(x, "gmi  ", 5);
        fault(x, "gmi 1", 5);
        fault(x, "gmi 1 ", 6);
        fault(x, "step 1 1", 8);
        fault(x, "told 1 2 3 4", 12);

        says(0, "no such WORD, an INT (more than six digits, too) that can't be, no INT where one must be, anything "
            + "behind.");
        fault(x, "gm 1 0", 0);
        fault(x, "gmii 1 0", 0);
        fault(x, "gmigmi 1 0", 0);
        fault(x, "  fra 1 0", 2);
        fault(x, "1 0", 0);
        fault(x, "-1 0", 0);
        fault(x, "gmi 0000001 0", 4);
        fault(x, "gmi -0000001 0", 4);
        fault(x, "gmi 1 99999999999999999999999", 6);
        fault(x, "gmi 4294967297 0", 4);
        due("six digits", cut(x, "gmi 000001 -000000"), 0);
        x.uncut();
        fault(x, "gmi gmi 1 0", 4);
        fault(x, "gmi 1 x", 6);
        fault(x, "gmi 1 -", 6);
        fault(x, "gmi 1 0 0", 8);
        fault(x, "gmi 1 0 x", 8);
        fault(x, "gmi 1 0x", 7);
        fault(x, "gmi 1 0-1", 7);
        fault(x, "gmi 1 0 gmi", 8);
        fault(x, "gmi 10 x", 4);
        fault(x, "hull 0", 5);
        wordsWithOneLetterWrong();

        says(0, "-4: there is no GROUP, or SCALE would be 0; by gmi, step, frac that is so, if PIVOT (its rest) "
            + "is 0.");
        CornerCuts none = groupless();
        refused(none, "no group", cut(none, "gmi 1"), -4);
        refused(x, "gmi 5 0", cut(x, "gmi 5 0"), -4);
        refused(x, "gmi 0 9", cut(x, "gmi 0 9"), -4);
        refused(x, "frac -5 1", cut(x, "frac -5 1"), -4);
        refused(x, "step 5 1 0", cut(x, "step 5 1 0"), -4);
        refused(x, "step 1 0 0", cut(x, "step 1 0 0"), -4);
        refused(x, "told 9 9 9 0 9", cut(x, "told 9 9 9 0 9"), -4);
        due("told 0 0 0 1 0", cut(x, "told 0 0 0 1 0"), 0);
        refused(x, "hull 0", cut(x, "hull 0"), -4);
        due("PIVOT 1", cut(x, "gmi 2 0"), 1);
        x.right(0, 5);
        refused(x, "goal 0", cut(x, "gmi 1 1"), -4);
        due("goal 0", cut(x, "told 1 0 0 0 0"), 0);
        refused(x, "goal 0, hull 0", cut(x, "hull 0"), -4);
    }

    /** Each WORD with each of its letters wrong, too few, too many, INTS behind that would do. */
    private static void wordsWithOneLetterWrong() {
        String[] texts = {"gmi 1", "frac 1", "step 1 1", "both 0 0", "hull 0", "told 0 1 2 3 4"};
        for (String t : texts) {
            CornerCuts x = cyclic(5, 3);
            cut(x, "gmi 1");
            due(t, cut(x, t), 1);
            int letters = t.indexOf(' ');
            for (int i = 0; i < letters; i++) {
                String behind = t.substring(i + 1);
                fault(x, t.substring(0, i) + 'q' + behind, 0);
                fault(x, t.substring(0, i) + behind, 0);
                fault(x, t.substring(0, i + 1) + t.charAt(i) + behind, 0);
                fault(x, t.substring(0, i) + Character.toUpperCase(t.charAt(i)) + behind, 0);
            }
            fault(x, t.substring(letters), 1);
        }
    }

    private static void termsOfPairs() {
        says(0, "BAD pairs: ELEMENTS a, b (a at most b; 0, too) the VALUES of which are together below that of both "
            + "together.");
        CornerCuts x = cyclic(3, 1);
        cut(x, "told 0 1 3");
        cut(x, "told 0 1 2");
        cut(x, "told 9 1 2");
        cut(x, "told 9 4 4");
        due("1 and 1 below 3", 1000 * x.asks(0, 0) + x.asks(0, 1), 1101);
        due("1 and 1 just 2", x.asks(1, 0), 0);
        due("1 and 2 below 9 at 0", 1000 * x.asks(2, 0) + x.asks(2, 1), 1102);
        due("4 and 4 below 9 at 0", 1000 * x.asks(3, 0) + x.asks(3, 1), 1102);

        says(0, "It is SUBADDITIVE without any, if the VALUE of 0 is 0.");
        cut(x, "told 1 1 1");
        due("no bad pair, 1 at 0", 10 * x.asks(4, 0) + x.asks(4, 2), 0);
        due("no bad pair, 0 at 0", 10 * x.asks(1, 0) + x.asks(1, 2), 1);
        due("a bad pair, 0 at 0", 10 * x.asks(0, 0) + x.asks(0, 2), 10);

        says(0, "SYMMETRIC: each VALUE and that of GOAL less it are together SCALE.");
        // goal 1: 0 and 1, 2 with itself
        cut(x, "told 0 4 2");
        cut(x, "told 0 4 3");
        cut(x, "told 1 4 2");
        due("0 4 2", x.asks(5, 3), 1);
        due("0 4 3", x.asks(6, 3), 0);
        due("1 4 2", x.asks(7, 3), 0);

        says(0, "It HOLDS: by no WALK VALUES of all ELEMENTS that are taken are together below SCALE; LEAST: the "
            + "least that WALKS have (none without WALKS).");
        x = cyclic(4, 2);
        cut(x, "told 0 2 4 1");
        cut(x, "told 0 2 5 1");
        cut(x, "told 0 2 2 1");
        due("no walks: HOLDS", x.asks(0, 4), 1);
        due("no walks: LEAST", x.asks(0, 8), -1);
        x.column(1, 0, 0, 0);
        due("just SCALE: HOLDS", x.asks(0, 4), 1);
        due("just SCALE: LEAST", x.asks(0, 8), 4);
        due("below SCALE: HOLDS", x.asks(1, 4), 0);
        due("below SCALE: LEAST", x.asks(1, 8), 4);
        x.column(3, 0, 0, 0);
        due("below SCALE by 3 and 3: LEAST", x.asks(0, 8), 2);
        due("below SCALE by 3 and 3: HOLDS", x.asks(0, 4), 0);
        due("just SCALE by 3 and 3: HOLDS", x.asks(2, 4), 1);
        cut(x, "told 0 9 9 8");
        due("LEAST of another CUT", x.asks(3, 8), 16);
        due("HOLDS of another CUT", x.asks(3, 4), 1);
        x.right(0, 0);
        cut(x, "told 1 1 1 1");
        due("goal 0, nothing taken: LEAST", x.asks(0, 8), 0);
        due("goal 0, nothing taken: HOLDS", x.asks(0, 4), 0);

        says(0, "of all pairs a at most b, both not 0, the VALUES of which are together just that of both together: "
            + "x(a) and x(b) less x(a and b), x(0) being 0; and x(GOAL).");
        x = cyclic(4, 1);
        cut(x, "told 0 1 1 1");
        due("none is tight: pairs", x.asks(0, 7), 0);
        due("none is tight: RANK", x.asks(0, 5), 1);
        cut(x, "told 0 1 0 0");
        // 2 and 2, 2 and 3 not, 3 and 3, 1 and 2 not, 1 and 3 not
        due("0 1 0 0: pairs", x.asks(1, 7), 2);
        due("0 1 0 0: RANK", x.asks(1, 5), 3);
        cut(x, "told 2 1 2 1");
        // 1 and 1, 1 and 3, 3 and 3
        due("2 1 2 1: pairs", x.asks(2, 7), 3);
        due("2 1 2 1: RANK", x.asks(2, 5), 3);
        CornerCuts seven = cyclic(7, 4);
        cut(seven, "told 0 2 4 6 8 9 9");
        // 1 and 1, 1 and 2, 1 and 3, 2 and 2; the last of these is not apart
        due("0 2 4 6 8 9 9: pairs", seven.asks(0, 7), 4);
        due("0 2 4 6 8 9 9: RANK", seven.asks(0, 5), 4);
        cut(seven, "told 0 1 2 3 4 5 6");
        due("0 1 2 3 4 5 6: pairs", seven.asks(1, 7), 9);
        due("0 1 2 3 4 5 6: RANK", seven.asks(1, 5), 6);
        cut(seven, "told 0 0 0 0 1 0 0");
        // all pairs but those that make 4, and but those with 4
        due("0 0 0 0 1 0 0: pairs", seven.asks(2, 7), 12);
        due("0 0 0 0 1 0 0: RANK", seven.asks(2, 5), 6);
        cut(seven, "told 9 9 9 1 1 0 9");
        // 1 and 5, 2 and 5, which make 0
        due("9 9 9 1 1 0 9: pairs", seven.asks(3, 7), 2);
        due("9 9 9 1 1 0 9: RANK", seven.asks(3, 5), 3);
        CornerCuts six = cyclic(6, 1);
        cut(six, "told 0 3 1 0 2 1");
        // 2 and 2, 2 and 3, 3 and 3, 3 and 5, 5 and 5: x(3) is 0, x(5) is x(2), x(4) twice that; and x(1)
        due("0 3 1 0 2 1: pairs", six.asks(0, 7), 5);
        due("0 3 1 0 2 1: RANK", six.asks(0, 5), 4);
        six.right(0, 2);
        cut(six, "told 3 2 2 1 1 3");
        due("3 2 2 1 1 3: pairs", six.asks(0, 7), 5);
        due("3 2 2 1 1 3: RANK", six.asks(0, 5), 4);
        x.right(0, 0);
        cut(x, "told 1 5 5 5");
        due("goal 0: pairs", x.asks(0, 7), 0);
        due("goal 0: RANK", x.asks(0, 5), 0);

        says(0, "It is a FACET, if it is SUBADDITIVE, SYMMETRIC, and RANK is D less 1.");
        x = cyclic(5, 3);
        cut(x, "gmi 1");
        due("a facet", 1000 * x.asks(0, 2) + 100 * x.asks(0, 3) + 10 * x.asks(0, 5) + x.asks(0, 6), 1141);
        cut(x, "told 0 13 11 24 12");
        due("RANK below", 1000 * x.asks(1, 2) + 100 * x.asks(1, 3) + x.asks(1, 6), 1100);
        // 1 and 2, 4 and 4
        due("RANK below", x.asks(1, 5), 3);
        cut(x, "told 6 2 4 6 3");
        due("not SUBADDITIVE", 10 * x.asks(2, 2) + x.asks(2, 6), 0);
        x = square(1, 0, 0, 1);
        cut(x, "told 1");
        due("one element: RANK 0, yet no facet", 10 * x.asks(0, 5) + x.asks(0, 6), 0);
    }

    private static void termsOfColumnsAndTable() {
        says(0, "for all COLUMNS COEFFICIENT times the other's SCALE is not above the other's COEFFICIENT times its "
            + "SCALE, and for one it is below.");
        CornerCuts x = cyclic(5, 3);
        cut(x, "told 0 2 4 6 3");
        cut(x, "told 0 2 3 6 3");
        cut(x, "told 0 4 8 12 6");
        due("no columns", x.isOver(1, 0), false);
        x.column(1, 0, 0, 0);
        due("none is below", x.isOver(1, 0), false);
        x.column(2, 0, 0, 0);
        due("one is below", x.isOver(1, 0), true);
        due("one is above", x.isOver(0, 1), false);
        due("like by SCALE", x.isOver(0, 2), false);
        due("below by SCALE", x.isOver(1, 2), true);

        says(0, "TOUCHED: how many WALKS of 6 STEPS at most have VALUES together just SCALE.");
        x = cyclic(9, 6);
        x.column(1, 0, 0, 0);
        cut(x, "told 0 1 2 3 4 5 6 7 8");
        due("six steps", x.asks(0, 9), 1);
        x.right(0, 7);
        cut(x, "told 0 1 2 3 4 5 6 7 8");
        due("seven steps", x.asks(0, 9), 0);
        x.column(2, 0, 0, 0);
        due("4 .. 6 steps", x.asks(0, 9), 3);
        x.column(2, 0, 0, 0);
        due("of like columns each way counts", x.asks(0, 9), 9);

        says(0, "they make a SUBGROUP, if 0 is among them and any two of them together are.");
        x = cyclic(6, 3);
        cut(x, "told 0 1 0 1 0 1");
        cut(x, "told 0 1 0 1 1 1");
        cut(x, "told 1 1 0 1 0 1");
        cut(x, "told 0 1 1 1 1 1");
        cut(x, "told 1 1 1 1 1 1");
        int[] zeros = {21, 5, 20, 1, 0};
        int[] subgroups = {1, 0, 0, 1, 0};
        for (int i = 0; i < 5; i++) {
            due("zeros(" + i + ", 0)", x.zeros(i, 0), zeros[i]);
            due("zeros(" + i + ", 1)", x.zeros(i, 1), subgroups[i]);
        }

        says(0, "the least COST times SCALE by COEFFICIENT of all COLUMNS with a COEFFICIENT above 0 (none without "
            + "such).");
        due("no columns", x.bound(0, 0), -1);
        x.column(2, 0, 0, 7);
        due("COEFFICIENT 0 alone", x.bound(0, 0), -1);
        x.column(1, 0, 0, 9);
        due("one above 0", 100 * x.bound(0, 0) + x.bound(0, 1), 901);

        says(0, "all FUNCTIONS by gmi of all multipliers 0 .. D-1 (m of them, as far as PIVOT is not 0), each divided "
            + "by the greatest that divides all its VALUES, no two alike, by rising VALUES of ELEMENTS 0, 1 and on.");
        x = cyclic(6, 2);
        // by 1 and 5: 0 4 8 6 4 2; by 2 and 4: 0 4 8 0 4 8; by 3 PIVOT is 0
        due("how many", x.table(0), 2);
        due("divided by 4", tabled(x, 0), "0 1 2 0 1 2");
        due("divided by 2", tabled(x, 1), "0 2 4 3 2 1");
        x = square(2, 0, 0, 2);
        x.right(0, 1);
        due("multipliers 1 0 and 1 1", x.table(0), 2);
        due("by 1 0", tabled(x, 0), "0 0 1 1");
        due("by 1 1", tabled(x, 1), "0 1 1 0");
        x.right(0, 0);
        due("no PIVOT but 0", x.table(0), 0);
        x = cube(2, 0, 0, 0, 2, 0, 0, 0, 2);
        x.right(2, 1);
        due("multipliers a b 1", x.table(0), 4);
        due("by 0 0 1", tabled(x, 0), "0 1 0 1 0 1 0 1");
        due("by 1 0 1", tabled(x, 1), "0 1 0 1 1 0 1 0");
        due("by 0 1 1", tabled(x, 2), "0 1 1 0 0 1 1 0");
        due("by 1 1 1", tabled(x, 3), "0 1 1 0 1 0 0 1");
        x = cube(2, 0, 0, 1, 2, 0, 2, 1, 3);
        for (int i = 0; i < 3; i++) {
            x.right(i, 1);
        }
        String[] six = {"0 0 0 0 0 0 1 1 1 1 1 1", "0 0 0 2 2 2 1 1 1 3 3 3", "0 1 2 1 2 0 0 1 2 1 2 0",
            "0 4 2 4 2 0 3 1 5 1 5 3", "0 4 8 10 2 6 9 1 5 7 11 3", "0 28 20 10 14 30 21 25 5 7 35 15"};
        due("six of 12", x.table(0), 6);
        for (int i = 0; i < 6; i++) {
            due("function " + i, tabled(x, i), six[i]);
        }
        x = square(4, 0, 0, 6);
        x.right(0, 2);
        x.right(1, 3);
        // PIVOT is 12 if u and v are together odd: 12 of 24; 0 3 and 2 3 are their own opposites
        due("multipliers of 24", x.table(0), 7);

        says(0, "SHOT at an ELEMENT: that one the VALUE of which there by its own SCALE (the VALUE of GOAL) is least, "
            + "the first.");
        x = cyclic(5, 3);
        int[] shots = {0, 0, 1, 0, 0};
        for (int e = 0; e < 5; e++) {
            due("shot(" + e + ")", x.shot(e), shots[e]);
        }

        says(0, "that one by which (SCALE less VALUES of all that are taken) by SCALE is greatest, the first.");
        x.column(2, 0, 0, 0);
        due("nothing taken", x.deepest(0, 0, 0, 0, 0, 0), 0);
        due("far below 0", x.deepest(99, 0, 0, 0, 0, 0), 1);
        x.column(3, 0, 0, 0);
        due("alike", x.deepest(0, 99, 0, 0, 0, 0), 0);

        says(0, "MIDDLE of a CUT: i, j (i below j), so that of each ELEMENT VALUE by SCALE of the i-th and of the j-th "
            + "are together twice VALUE by SCALE of the CUT; the first by i, then by j.");
        cut(x, "told 0 13 11 24 12");
        cut(x, "told 0 13 11 24 11");
        cut(x, "told 1 13 11 24 12");
        cut(x, "gmi 1");
        due("just the middle", x.middle(0), 1);
        due("but for the last ELEMENT", x.middle(1), -1);
        due("but for ELEMENT 0", x.middle(2), -1);
        due("i is not j", x.middle(3), -1);
    }

    // ------------------------------------------------------------------ Promises 1 to 17

    private static void promises1To4() {
        says(1, "Two ROWS, no COLUMNS.");
        CornerCuts x = new CornerCuts();
        int[] counts = {2, 0, 0, 1, 0, 0, 0, 0, 0, 0, 0, 0, 0, -1, 1, 0, -1, 0, 1, -1, -1, -1, -1, -1};
        for (int i = 0; i < counts.length; i++) {
            due("count(" + i + ")", x.count(i), counts[i]);
        }
        due("goal(0)", x.goal(0), -1);
        due("value(0, 0)", x.value(0, 0), -1);
        due("tape(0)", x.tape(0), -1);
        due("fault()", x.fault(), -1);
        due("status()", x.status(), 0);
        refused(x, "undo()", x.undo(), -4);
        refused(x, "back(0)", x.back(0), -4);
        refused(x, "back(1)", x.back(1), -4);

        says(2, "m ROWS, all anew as at first (COLUMNS, CUTS go): m.");
        for (int m = 1; m <= 3; m++) {
            x = rich();
            due("rows(" + m + ")", x.rows(m), m);
            due("count(0)", x.count(0), m);
            due("columns", x.count(1), 0);
            due("cuts", x.count(2), 0);
            due("elements", x.count(3), 1);
            due("right", x.count(11), 0);
            due("basis", x.count(14), 1);
            due("walk(0): goal 0 without columns", x.walk(0), 0);
            due("value(0, 0)", x.value(0, 0), -1);
        }
        x = cyclic(5, 3);
        x.rows(1);
        due("the same m: all anew", 10 * x.count(14) + x.count(11), 10);
        x = cube(9, 8, 7, 6, 5, 4, 3, 2, 1);
        x.right(2, 5);
        x.rows(3);
        due("the right side anew", x.count(13), 0);
        for (int i = 0; i < 9; i++) {
            due("the basis anew: count(" + (14 + i) + ")", x.count(14 + i), i % 4 == 0 ? 1 : 0);
        }
        says(2, "m. -1.");
        int[] bad = {0, 4, -1, MIN, MAX};
        for (int m : bad) {
            refused(x, "rows(" + m + ")", x.rows(m), -1);
        }
        due("count(0)", x.count(0), 3);

        says(3, "A NUMBER of the BASIS: what it was. -1.");
        for (int m = 1; m <= 3; m++) {
            x.rows(m);
            int[] rows = {-1, m, MIN, MAX};
            for (int r : rows) {
                refused(x, "basis(" + r + ", 0, 1)", x.basis(r, 0, 1), -1);
                refused(x, "basis(0, " + r + ", 1)", x.basis(0, r, 1), -1);
            }
            int[] numbers = {-10, 10, MIN, MAX};
            for (int v : numbers) {
                refused(x, "basis(0, 0, " + v + ")", x.basis(0, 0, v), -1);
            }
            due("basis of the last row and column", x.basis(m - 1, m - 1, 9), 1);
            due("what it was", x.basis(m - 1, m - 1, -9), 9);
            due("below 0 is no refusal", x.basis(m - 1, m - 1, -1), -9);
            due("status()", x.status(), 0);
            due("-1 is no refusal", x.basis(m - 1, m - 1, 1), -1);
            due("status()", x.status(), 0);
        }

        says(4, "A NUMBER of the RIGHT SIDE: what it was. -1.");
        for (int m = 1; m <= 3; m++) {
            x.rows(m);
            int[] rows = {-1, m, MIN, MAX};
            for (int r : rows) {
                refused(x, "right(" + r + ", 1)", x.right(r, 1), -1);
            }
            int[] numbers = {-100, 100, MIN, MAX};
            for (int v : numbers) {
                refused(x, "right(0, " + v + ")", x.right(0, v), -1);
            }
            due("right of the last row", x.right(m - 1, 99), 0);
            due("what it was", x.right(m - 1, -99), 99);
            due("below 0 is no refusal", x.right(m - 1, -1), -99);
            due("status()", x.status(), 0);
            due("-1 is no refusal", x.right(m - 1, 0), -1);
            due("status()", x.status(), 0);
        }
    }

    private static void promises5To7() {
        says(5, "A COLUMN (NUMBERS beyond m are not asked): its number.");
        CornerCuts x = cyclic(5, 3);
        due("one row", x.column(1, MIN, MAX, 0), 0);
        due("its element", x.goal(0), 1);
        x.rows(2);
        due("two rows", x.column(1, 1, MAX, 0), 0);
        refused(x, "the second number is asked", x.column(1, MAX, 0, 0), -1);
        x.rows(3);
        refused(x, "the third number is asked", x.column(1, 1, 100, 0), -1);
        x.basis(2, 2, 4);
        due("three rows", x.column(1, 1, 7, 0), 0);
        due("its element", x.goal(0), 3);
        x.rows(3);
        says(5, "-1; -5.");
        int[] bad = {-100, 100, MIN, MAX};
        for (int v : bad) {
            refused(x, "column(" + v + ", ..)", x.column(v, 0, 0, 0), -1);
            refused(x, "column(.., " + v + ", ..)", x.column(0, v, 0, 0), -1);
            refused(x, "column(.., " + v + ", cost)", x.column(0, 0, v, 0), -1);
        }
        int[] badCosts = {-1, 100, MIN, MAX};
        for (int v : badCosts) {
            refused(x, "cost " + v, x.column(0, 0, 0, v), -1);
        }
        due("none has come", x.count(1), 0);
        for (int k = 0; k < 6; k++) {
            due("its number", x.column(99, -99, 99, 99 * (k % 2)), k);
        }
        refused(x, "no room", x.column(0, 0, 0, 0), -5);
        refused(x, "-1 ahead of -5", x.column(0, 0, 0, -1), -1);
        x.drop(0);
        due("room again", x.column(0, 0, 0, 0), 5);

        says(6, "COST of a COLUMN: what it was. -1; -2.");
        x = cyclic(5, 1);
        refused(x, "no columns", x.cost(0, 1), -2);
        x.column(1, 0, 0, 99);
        due("what it was", x.cost(0, 0), 99);
        due("what it was", x.cost(0, 99), 0);
        int[] noColumns = {-1, 1, 6, MIN, MAX};
        for (int k : noColumns) {
            refused(x, "cost(" + k + ", 1)", x.cost(k, 1), -2);
            refused(x, "cost(" + k + ", 100): -1 ahead of -2", x.cost(k, 100), -1);
        }
        for (int v : badCosts) {
            refused(x, "cost(0, " + v + ")", x.cost(0, v), -1);
        }
        due("it stays", x.walk(0), 99);

        says(7, "A COLUMN goes, those above have a number 1 less: how many there are then. -2.");
        x = cyclic(7, 1);
        refused(x, "no columns", x.drop(0), -2);
        for (int k = 0; k < 6; k++) {
            x.column(k + 1, 0, 0, 10 * k);
        }
        int[] none = {-1, 6, MIN, MAX};
        for (int k : none) {
            refused(x, "drop(" + k + ")", x.drop(k), -2);
        }
        due("the last", x.drop(5), 5);
        refused(x, "it has gone", x.drop(5), -2);
        due("the first", x.drop(0), 4);
        due("the second is the first", x.goal(0), 2);
        due("with its cost", x.far(2, 0), 10);
        due("drop(1)", x.drop(1), 3);
        due("goal(0)", x.goal(0), 2);
        due("goal(1)", x.goal(1), 4);
        due("goal(2)", x.goal(2), 5);
        due("goal(3)", x.goal(3), -1);
        due("cost(2, 1)", x.cost(2, 1), 40);
        due("drop(2)", x.drop(2), 2);
        due("drop(1)", x.drop(1), 1);
        due("drop(0)", x.drop(0), 0);
        refused(x, "none is left", x.drop(0), -2);
        x = cube(2, 0, 0, 0, 3, 0, 0, 0, 4);
        x.column(1, 2, 3, 0);
        x.column(1, 1, 2, 0);
        x.column(0, 2, 1, 0);
        x.drop(0);
        due("all its numbers", 100 * x.goal(0) + x.goal(1), 100 * (12 + 4 + 2) + 8 + 1);
    }

    private static void promises8And9() {
        says(8, "Twenty bytes come behind the TAPE, four of each number, the highest first: how many it has.");
        CornerCuts x = new CornerCuts();
        due("feed", x.feed(0x01020304, 0x7F80FEFF, MIN, MAX, -1), 20);
        int[] bytes = {1, 2, 3, 4, 127, 128, 254, 255, 128, 0, 0, 0, 127, 255, 255, 255, 255, 255, 255, 255};
        for (int i = 0; i < 20; i++) {
            due("tape(" + i + ")", x.tape(i), bytes[i]);
        }
        x.end(3);
        due("behind three", x.feed(0x41424344, 0, 0, 0, 0x45464748), 23);
        due("tape(2)", x.tape(2), 3);
        due("tape(3)", x.tape(3), 0x41);
        due("tape(22)", x.tape(22), 0x48);

        says(8, "NONE, if there would be more than 400.");
        x.end(0);
        for (int i = 1; i <= 20; i++) {
            due("feed", x.feed(i, i, i, i, i), 20 * i);
        }
        due("full", x.feed(1, 1, 1, 1, 1), -1);
        due("count(5)", x.count(5), 400);
        due("the last byte", x.tape(399), 20);
        x.end(381);
        due("401", x.feed(1, 1, 1, 1, 1), -1);
        due("count(5)", x.count(5), 381);
        x.end(380);
        due("just 400", x.feed(7, 7, 7, 7, 7), 400);
        due("the last byte", x.tape(399), 7);
        due("it is not REFUSED", x.status(), 0);
        due("nor counted", x.count(9), 0);

        says(9, "The TAPE has its first n bytes alone: n.");
        due("end(400)", x.end(400), 400);
        due("end(399)", x.end(399), 399);
        due("tape(395)", x.tape(395), 7);
        due("tape(398)", x.tape(398), 0);
        due("tape(399)", x.tape(399), -1);
        due("end(0)", x.end(0), 0);
        due("tape(0)", x.tape(0), -1);
        due("end(0) of none", x.end(0), 0);
        says(9, "NONE, if it has not so many, or n is below 0.");
        due("end(1) of none", x.end(1), -1);
        x.feed(1, 2, 3, 4, 5);
        due("end(21)", x.end(21), -1);
        due("end(-1)", x.end(-1), -1);
        due("end(MIN)", x.end(MIN), -1);
        due("end(MAX)", x.end(MAX), -1);
        due("count(5)", x.count(5), 20);
        due("it is not REFUSED", x.status(), 0);
        due("nor counted", x.count(6), 0);
    }

    private static void promise10() {
        says(10, "A CUT by the TEXT on the TAPE (empty then, also by -4, -6): its number.");
        CornerCuts x = cyclic(5, 3);
        due("the first", cut(x, "gmi 1"), 0);
        due("count(5)", x.count(5), 0);
        due("tape(0)", x.tape(0), -1);
        refused(x, "-6", cut(x, "gmi"), -6);
        due("count(5)", x.count(5), 0);
        refused(x, "-4 of SCALE", cut(x, "gmi 0"), -4);
        due("count(5)", x.count(5), 0);
        due("count(2)", x.count(2), 1);
        due("count(4)", x.count(4), 4);

        says(10, "-4 without a GROUP; -5 (the TAPE stays); -6; -4 of SCALE, behind all.");
        x = groupless();
        String before = all(x);
        type(x, "gmi 1");
        refused(x, "-4", x.cut(), -4);
        due("count(5)", x.count(5), 0);
        due("all", all(x), before);
        refused(x, "-4 ahead of -6", cut(x, "zz"), -4);
        x.basis(0, 0, 9);
        x.basis(0, 0, -9);
        due("a group again", cut(x, "gmi 1"), 0);
        x = square(5, 0, 0, 5);
        refused(x, "D 25", cut(x, "gmi 1 1"), -4);
        x = full();
        type(x, "gmi 1");
        refused(x, "-5", x.cut(), -5);
        due("the tape", onTape(x), "gmi 1");
        refused(x, "-5 again", x.cut(), -5);
        x.uncut();
        due("the same text", x.cut(), 7);
        refused(x, "-5 ahead of -6", cut(x, "zz"), -5);
        refused(x, "-5 ahead of -4 of SCALE", cut(x, "gmi 0"), -5);
        due("the tape", onTape(x), "gmi 0");
        x.uncut();
        refused(x, "-4 of SCALE", x.cut(), -4);
        due("the tape", onTape(x), "");
        refused(x, "-6 ahead of -4 of SCALE", cut(x, "gmi 0 0"), -6);
        refused(x, "an empty tape", x.cut(), -6);
        due("the seven stay", x.count(2), 7);
        type(x, "told" + " ".repeat(387) + "0 1 1 1 1");
        due("a full tape", x.count(5), 400);
        due("a full tape", x.cut(), 7);
    }

    private static void promise11() {
        says(11, "FAULT of the latest cut() that was not REFUSED by -5, or by -4 without a GROUP; NONE without one, "
            + "ahead of any.");
        CornerCuts x = cyclic(5, 3);
        due("ahead of any", x.fault(), -1);
        cut(x, "gmi x");
        due("by -6", x.fault(), 4);
        cut(x, "gmi 1");
        due("of one that was made", x.fault(), -1);
        cut(x, "gmi 1 1");
        due("by -6", x.fault(), 6);
        cut(x, "gmi 0");
        due("by -4 of SCALE", x.fault(), -1);
        cut(x, "zz");
        due("by -6", x.fault(), 0);
        x.basis(0, 0, 0);
        refused(x, "no group", cut(x, "gmi x"), -4);
        due("not by -4 without a group", x.fault(), 0);
        x.undo();
        for (int i = 1; i < 8; i++) {
            cut(x, "told 1 1 1 1 1");
        }
        due("of one that was made", x.fault(), -1);
        refused(x, "no room", cut(x, "gmi x"), -5);
        due("not by -5", x.fault(), -1);
        x.uncut();
        cut(x, "gmi x");
        due("by -6", x.fault(), 4);
        x.undo();
        refused(x, "no room", cut(x, "told"), -5);
        due("not by -5", x.fault(), 4);
        x.uncut();
        x.feed(0, 0, 0, 0, 0);
        x.listing(0);
        x.rows(9);
        x.rows(2);
        x.undo();
        due("of the latest cut() alone", x.fault(), 4);
        String long400 = "told" + " ".repeat(396);
        fault(x, long400, 400);
        fault(x, long400.substring(1) + "x", 0);
    }

    private static void promises12To14() {
        says(12, "The TEXT of a CUT, WORD and INTS with single blanks between, comes onto the TAPE, in place of all: "
            + "how many bytes.");
        CornerCuts x = cube(1, 0, 0, 0, 4, 0, 0, 0, 6);
        x.right(2, 1);
        String told = "told 999 0" + " 999".repeat(22);
        String[] typed = {"gmi-9 9-1", "frac   000000 -0 5", "step 23-9-9 -9", "step1 0 0 1", told, "both 4 04",
            "hull  5", "told" + " 0 100 10 1".repeat(6)};
        String[] listed = {"gmi -9 9 -1", "frac 0 0 5", "step 23 -9 -9 -9", "step 1 0 0 1", "told 999 0" + " 999".repeat(22),
            "both 4 4", "hull 5", "told" + " 0 100 10 1".repeat(6)};
        cut(x, typed[0]);
        cut(x, typed[1]);
        cut(x, typed[2]);
        cut(x, typed[3]);
        refused(x, "SCALE 0", cut(x, typed[4]), -4);
        typed[4] = "told 999" + " 999".repeat(23);
        listed[4] = typed[4];
        for (int i = 4; i < 8; i++) {
            due("cut() of [" + typed[i] + "]", cut(x, typed[i]), i);
        }
        for (int i = 0; i < 8; i++) {
            type(x, "x".repeat(40 * i));
            due("listing(" + i + ")", x.listing(i), listed[i].length());
            due("the tape", onTape(x), listed[i]);
        }
        says(12, "how many bytes. -2.");
        x.uncut();
        int[] none = {-1, 7, 8, MIN, MAX};
        for (int c : none) {
            refused(x, "listing(" + c + ")", x.listing(c), -2);
        }
        due("the tape stays", onTape(x), listed[7]);
        due("it can be read again", x.cut(), 7);
        CornerCuts y = new CornerCuts();
        refused(y, "no cuts", y.listing(0), -2);

        says(13, "Byte i of the TAPE. NONE.");
        due("an empty one", y.tape(0), -1);
        y.feed(-1, 0, 0, 0, 255);
        due("tape(0)", y.tape(0), 255);
        due("tape(19)", y.tape(19), 255);
        int[] noBytes = {-1, 20, 399, 400, MIN, MAX};
        for (int i : noBytes) {
            due("tape(" + i + ")", y.tape(i), -1);
        }

        says(14, "The latest CUT goes: how many there are then. -4 (there is none).");
        refused(y, "none", y.uncut(), -4);
        x = full();
        for (int i = 7; i >= 0; i--) {
            due("uncut()", x.uncut(), i);
            due("the latest", x.value(i, -1), -1);
            due("the one below", x.value(i - 1, -1), i == 0 ? -1 : i);
        }
        refused(x, "none is left", x.uncut(), -4);
        due("a new one is the first", cut(x, "gmi 1"), 0);
    }

    private static void promise15() {
        says(15, "The latest rows() (told as 0), basis() (1), right() (2), column() (3), cost() (4), drop() (5), cut() "
            + "(6), uncut() (7) that was not REFUSED (10 are kept) is undone");
        CornerCuts x = cyclic(5, 3);
        String[] states = new String[9];
        states[0] = all(x);
        x.column(1, 0, 0, 4);
        states[1] = all(x);
        x.cost(0, 7);
        states[2] = all(x);
        cut(x, "gmi 1");
        states[3] = all(x);
        x.uncut();
        int[] told = {7, 6, 4, 3};
        for (int i = 0; i < 4; i++) {
            due("undo()", x.undo(), told[i]);
            due("all", all(x), states[3 - i]);
        }
        x = cyclic(5, 3);
        x.column(1, 0, 0, 4);
        cut(x, "gmi 1");
        states[0] = all(x);
        x.drop(0);
        states[1] = all(x);
        x.right(0, 2);
        states[2] = all(x);
        x.basis(0, 0, 7);
        states[3] = all(x);
        x.rows(1);
        int[] others = {0, 1, 2, 5};
        for (int i = 0; i < 4; i++) {
            due("undo()", x.undo(), others[i]);
            due("all", all(x), states[3 - i]);
        }

        says(15, "(10 are kept)");
        x = new CornerCuts();
        for (int i = 1; i <= 9; i++) {
            x.right(0, i);
            due("count(4)", x.count(4), i);
        }
        x.right(0, 10);
        due("ten", x.count(4), 10);
        x.right(0, 11);
        due("eleven", x.count(4), 10);
        for (int i = 10; i >= 1; i--) {
            due("undo()", x.undo(), 2);
            due("count(4)", x.count(4), i - 1);
            due("count(11)", x.count(11), i);
        }
        refused(x, "the first was not kept", x.undo(), -4);
        due("count(11)", x.count(11), 1);
        for (int i = 1; i <= 27; i++) {
            x.right(1, i);
        }
        x.undo();
        x.undo();
        x.undo();
        for (int i = 1; i <= 5; i++) {
            x.right(1, -i);
        }
        due("7 and 5 are 10", x.count(4), 10);
        int[] back = {-4, -3, -2, -1, 24, 23, 22, 21, 20, 19};
        for (int v : back) {
            due("undo()", x.undo(), 2);
            due("count(12)", x.count(12), v);
        }
        refused(x, "no more", x.undo(), -4);

        says(15, "(all but the TAPE, FAULT, what is told of REFUSED calls is as it was): that.");
        x = rich();
        x.right(0, 4);
        cut(x, "gmi 1 1");
        x.drop(9);
        x.column(0, 0, 0, 100);
        type(x, "left");
        due("undo()", x.undo(), 2);
        due("the tape", onTape(x), "left");
        due("fault()", x.fault(), 6);
        due("count(6)", x.count(6), 1);
        due("count(7)", x.count(7), 1);
        due("count(10)", x.count(10), 2);
        due("cuts again", x.count(2), 2);
        due("status()", x.status(), 0);
        due("what is REFUSED is not undone, nor is image(), nor the tape: cut()", x.undo(), 6);
        due("the act ahead of it: cut()", x.undo(), 6);
        due("the act ahead of it: column()", x.undo(), 3);

        says(15, "that. -4 there is none.");
        x = new CornerCuts();
        refused(x, "undo()", x.undo(), -4);
        x.rows(4);
        refused(x, "one that was REFUSED", x.undo(), -4);
        x.rows(3);
        due("undo()", x.undo(), 0);
        refused(x, "undo() is not undone", x.undo(), -4);
        due("count(8)", x.count(8), 3);
    }

    private static void promises16And17() {
        says(16, "IMAGE k (0, 1) is kept, of all but the TAPE, FAULT, what is told of REFUSED calls, what can be undone: "
            + "m.");
        CornerCuts x = rich();
        int undone = x.count(4);
        String kept = all(x);
        due("image(0)", x.image(0), 1);
        due("nothing is changed", all(x), kept);
        due("count(4)", x.count(4), undone);
        x.rows(3);
        due("image(1)", x.image(1), 3);
        x.rows(2);
        cut(x, "gmx");
        x.drop(0);
        type(x, "left");
        due("back(0)", x.back(0), 1);
        due("the tape", onTape(x), "left");
        due("fault()", x.fault(), 0);
        due("count(7)", x.count(7), 1);
        due("columns and cuts", 10 * x.count(1) + x.count(2), 22);
        due("values", values(x, 0), "0 2 4 6 3");
        due("goal(-1)", x.goal(-1), 3);
        due("walk(0)", x.walk(0), 7);
        due("back(1)", x.back(1), 3);
        due("columns and cuts", 10 * x.count(1) + x.count(2), 0);
        due("elements", x.count(3), 1);
        x.basis(0, 0, 2);
        x.basis(2, 2, 4);
        x.column(1, 0, 3, 5);
        due("image(0) anew", x.image(0), 3);
        x.rows(3);
        x.column(1, 1, 1, 1);
        due("back(0)", x.back(0), 3);
        due("elements", x.count(3), 8);
        due("goal(0)", x.goal(0), 7);
        due("far(7, 0)", x.far(7, 0), 5);
        says(16, "m. -1.");
        int[] bad = {-1, 2, MIN, MAX};
        for (int k : bad) {
            refused(x, "image(" + k + ")", x.image(k), -1);
        }

        says(17, "Back to IMAGE k: m; nothing can be undone then.");
        x = cyclic(5, 3);
        x.column(1, 0, 0, 4);
        cut(x, "gmi 1");
        x.image(0);
        x.uncut();
        x.drop(0);
        x.right(0, 2);
        due("back(0)", x.back(0), 1);
        due("count(4)", x.count(4), 0);
        refused(x, "undo()", x.undo(), -4);
        due("the column, the cut", 10 * x.count(1) + x.count(2), 11);
        due("coefficient(0, 0)", x.coefficient(0, 0), 2);
        x.cost(0, 9);
        due("an act behind it", x.undo(), 4);
        due("the cost that was", x.walk(0), 12);
        x.cost(0, 9);
        x.uncut();
        due("back(0) again", x.back(0), 1);
        due("it was not changed", 10 * x.walk(0) + x.count(2), 121);
        says(17, "-1; -4 (it was not kept).");
        for (int k : bad) {
            refused(x, "back(" + k + ")", x.back(k), -1);
        }
        refused(x, "back(1)", x.back(1), -4);
        x.image(1);
        due("back(1)", x.back(1), 1);
        x.rows(2);
        x.undo();
        due("back(1), kept for good", x.back(1), 1);
        CornerCuts y = new CornerCuts();
        refused(y, "back(0)", y.back(0), -4);
        y.image(1);
        refused(y, "back(0), image 1 was kept alone", y.back(0), -4);
    }

    // ------------------------------------------------------------------ Promises 18 to 30

    private static void promises18To20() {
        says(18, "The determinant of the BASIS.");
        due("at first", new CornerCuts().determinant(), 1);
        due("0", square(3, 6, -1, -2).determinant(), 0);
        due("without a group", square(9, 9, -9, 9).determinant(), 162);
        due("below 0", square(9, -9, -9, -9).determinant(), -162);
        due("the greatest", cube(9, -9, 9, 9, 9, -9, -9, 9, 9).determinant(), 2916);
        due("the least", cube(-9, 9, -9, -9, -9, 9, 9, -9, -9).determinant(), -2916);
        due("no two alike", cube(1, 2, 3, 0, 4, 5, 1, 0, 6).determinant(), 22);
        due("no two alike", cube(2, -3, 7, 1, 8, -5, -6, 4, 9).determinant(), 485);
        due("rows that depend", cube(1, 2, 3, 4, 5, 6, 7, 8, 9).determinant(), 0);
        due("one row", cyclic(-9, 0).determinant(), -9);
        due("one row", cyclic(0, 0).determinant(), 0);

        says(19, "HERMITE form: row, column. NONE (no GROUP, others).");
        for (int m = 1; m <= 3; m++) {
            CornerCuts x = new CornerCuts();
            x.rows(m);
            due("the first", x.hermite(0, 0), 1);
            due("the last", x.hermite(m - 1, m - 1), 1);
            int[] bad = {-1, m, MIN, MAX};
            for (int i : bad) {
                due("hermite(" + i + ", 0)", x.hermite(i, 0), -1);
                due("hermite(0, " + i + ")", x.hermite(0, i), -1);
            }
        }
        due("no group", groupless().hermite(0, 0), -1);
        due("D 25", square(5, 0, 0, 5).hermite(0, 0), -1);
        due("above the diagonal", square(2, 1, 0, 4).hermite(0, 1), 0);

        says(20, "INVARIANT i. NONE (no GROUP, others).");
        for (int m = 1; m <= 3; m++) {
            CornerCuts x = new CornerCuts();
            x.rows(m);
            x.basis(0, 0, 9);
            due("the last", x.invariant(m - 1), 9);
            due("the first", x.invariant(0), m == 1 ? 9 : 1);
            int[] bad = {-1, m, MIN, MAX};
            for (int i : bad) {
                due("invariant(" + i + ")", x.invariant(i), -1);
            }
        }
        due("no group", groupless().invariant(0), -1);
        due("D 25", square(5, 0, 0, 5).invariant(0), -1);
        due("D 24", square(4, 0, 0, -6).invariant(1), 12);
    }

    private static void promises21To25() {
        says(21, "The ELEMENT of a row (NUMBERS beyond m are not asked; each -9,999 .. 9,999).");
        CornerCuts x = cyclic(7, 0);
        due("9,999", x.element(9999, MIN, MAX), 9999 % 7);
        due("-9,999", x.element(-9999, MIN, MAX), 7 - 9999 % 7);
        due("-1", x.element(-1, 0, 0), 6);
        due("7", x.element(7, 0, 0), 0);
        CornerCuts y = square(2, 0, 0, 5);
        due("two rows", y.element(9999, -9999, MAX), 5 + 1);
        CornerCuts z = cube(2, 0, 0, 0, 2, 0, 0, 0, 5);
        due("three rows", z.element(-9999, 9999, -9999), 10 + 5 + 1);
        z = cube(9, 9, 1, 9, -9, 0, 1, 0, 0);
        // the columns make (1, 0, 0), (0, 9, 0), (0, 0, 1), so the second number alone is asked
        due("9,999 is 1,111 times 9", z.element(9999, 9999, 9999), 0);
        due("1 less", z.element(-9999, 9998, 9999), 8);
        due("1 more", z.element(9999, -9998, -9999), 1);
        says(21, "NONE (no GROUP, others).");
        int[] bad = {-10000, 10000, MIN, MAX};
        for (int v : bad) {
            due("element(" + v + ")", x.element(v, 0, 0), -1);
            due("element(0, " + v + ")", y.element(0, v, 0), -1);
            due("element(0, 0, " + v + ")", z.element(0, 0, v), -1);
        }
        due("no group", groupless().element(0, 0, 0), -1);
        due("it is not REFUSED", x.status(), 0);

        says(22, "NUMBER i of the LEAST ROW of an ELEMENT. NONE.");
        due("the last, 0", y.least(9, 0), 1);
        due("the last, 1", y.least(9, 1), 4);
        due("the first", y.least(0, 1), 0);
        int[] noElements = {-1, 10, MIN, MAX};
        for (int e : noElements) {
            due("least(" + e + ", 0)", y.least(e, 0), -1);
        }
        int[] noRows = {-1, 2, MIN, MAX};
        for (int i : noRows) {
            due("least(0, " + i + ")", y.least(0, i), -1);
        }
        due("one row", x.least(0, 1), -1);
        due("no group", groupless().least(0, 0), -1);

        says(23, "Two ELEMENTS together. NONE.");
        due("6 and 6 wrap around", x.plus(6, 6), 5);
        due("6 and 1 wrap around", x.plus(6, 1), 0);
        due("0 and 6", x.plus(0, 6), 6);
        due("6 and 0", x.plus(6, 0), 6);
        int[] none = {-1, 7, MIN, MAX};
        for (int e : none) {
            due("plus(" + e + ", 0)", x.plus(e, 0), -1);
            due("plus(0, " + e + ")", x.plus(0, e), -1);
        }
        due("no group", groupless().plus(0, 0), -1);
        due("one element", new CornerCuts().plus(0, 0), 0);

        says(24, "How often an ELEMENT must be taken, at least once, to be 0. NONE.");
        due("0", x.order(0), 1);
        due("6", x.order(6), 7);
        int[] orders = {1, 24, 12, 8, 6, 24, 4};
        z = cube(1, 0, 0, 0, 1, 0, 5, 7, 1);
        due("one element", z.order(0), 1);
        z = square(3, 1, 0, 8);
        // (0, 1) makes all 24
        for (int e = 0; e < orders.length; e++) {
            due("order(" + e + ")", z.order(e), orders[e]);
        }
        due("order(23)", z.order(23), 24);
        for (int e : none) {
            due("order(" + e + ")", x.order(e), -1);
        }
        due("no group", groupless().order(0), -1);

        says(25, "GOAL (column NONE), the ELEMENT of a COLUMN. NONE (no GROUP, others).");
        x.right(0, -1);
        due("goal(-1)", x.goal(-1), 6);
        due("no columns", x.goal(0), -1);
        x.column(-99, 0, 0, 0);
        due("wraps around", x.goal(0), 6);
        int[] noColumns = {-2, 1, 6, MIN, MAX};
        for (int k : noColumns) {
            due("goal(" + k + ")", x.goal(k), -1);
        }
        for (int k = 1; k < 6; k++) {
            x.column(k, 0, 0, 0);
        }
        due("the last column", x.goal(5), 5);
        due("no group", groupless().goal(-1), -1);
        due("no group", groupless().goal(0), -1);
    }

    private static void promises26To28() {
        says(26, "How many ELEMENTS COLUMNS can make. NONE (no GROUP).");
        CornerCuts x = cyclic(6, 4);
        due("no columns", x.made(), 1);
        x.column(0, 0, 0, 1);
        due("ELEMENT 0", x.made(), 1);
        x.column(3, 0, 0, 1);
        due("3", x.made(), 2);
        x.column(4, 0, 0, 1);
        due("3 and 4: all", x.made(), 6);
        due("no group", groupless().made(), -1);
        due("one element", new CornerCuts().made(), 1);

        says(27, "NONE (no GROUP, no WALK, others).");
        x = cyclic(6, 4);
        x.column(3, 0, 0, 1);
        for (int i = 0; i < 9; i++) {
            due("no WALK: walk(" + i + ")", x.walk(i), -1);
        }
        CornerCuts none = groupless();
        due("no group: walk(0)", none.walk(0), -1);
        due("no group: walk(8)", none.walk(8), -1);
        x.column(2, 0, 0, 5);
        due("COLUMN 0", x.walk(2), 0);
        due("COLUMN 1", x.walk(3), 2);
        int[] others = {-1, 4, 5, 6, 7, 9, MIN, MAX};
        for (int i : others) {
            due("walk(" + i + ")", x.walk(i), -1);
        }
        for (int k = 2; k < 6; k++) {
            x.column(0, 0, 0, 0);
        }
        due("COLUMN 5", x.walk(7), 0);
        says(27, "The SHORTEST WALK: COST (what 0), STEPS (1), how often COLUMN k is taken (2 + k), 1 if it is a POINT, "
            + "else 0 (8).");
        due("COST", x.walk(0), 10);
        due("STEPS", x.walk(1), 2);
        due("a POINT", x.walk(8), 1);
        x.right(0, -2);
        due("no POINT", x.walk(8), 0);
        CornerCuts y = square(3, 1, 0, 8);
        y.right(1, -1);
        y.column(0, 1, 0, 99);
        due("the longest of all: STEPS", y.walk(1), 23);
        due("the longest of all: COST", y.walk(0), 2277);
        due("the longest of all: COLUMN 0", y.walk(2), 23);

        says(28, "BASIC i of the SHORTEST WALK. Integer.MIN_VALUE (no GROUP, no WALK, others).");
        due("below 0", x.basic(0), -1);
        x.right(0, 4);
        due("0", x.basic(0), 0);
        int[] noRows = {-1, 1, 2, MIN, MAX};
        for (int i : noRows) {
            due("basic(" + i + ")", x.basic(i), MIN);
        }
        x.right(0, 5);
        x.drop(0);
        due("no WALK", x.basic(0), MIN);
        due("no group", none.basic(0), MIN);
        // (0, -24) is 1 times the first, -3 times the second
        due("basic(0)", y.basic(0), 1);
        due("basic(1)", y.basic(1), -3);
        due("basic(2)", y.basic(2), MIN);
        y = cyclic(1, 99);
        due("99", y.basic(0), 99);
        y.right(0, -99);
        due("-99", y.basic(0), -99);
    }

    private static void promises29And30() {
        says(29, "The least COST by which COLUMNS make an ELEMENT (what 0), the fewest STEPS by that (1). NONE (they do "
            + "not; others).");
        CornerCuts x = cyclic(6, 4);
        due("0 by none", x.far(0, 0), 0);
        due("0 by none", x.far(0, 1), 0);
        due("not made", x.far(1, 0), -1);
        due("not made", x.far(1, 1), -1);
        x.column(2, 0, 0, 5);
        x.column(4, 0, 0, 10);
        due("like COST, fewest STEPS", 10 * x.far(4, 0) + x.far(4, 1), 101);
        x.cost(1, 11);
        due("less COST, more STEPS", 10 * x.far(4, 0) + x.far(4, 1), 102);
        due("0 still by none", 10 * x.far(0, 0) + x.far(0, 1), 0);
        due("the last is not made", x.far(5, 0), -1);
        int[] noElements = {-1, 6, MIN, MAX};
        for (int e : noElements) {
            due("far(" + e + ", 0)", x.far(e, 0), -1);
        }
        int[] others = {-1, 2, MIN, MAX};
        for (int i : others) {
            due("far(2, " + i + ")", x.far(2, i), -1);
        }
        due("no group", groupless().far(0, 0), -1);

        says(30, "WHOLE: COST (what 0), STEPS (1), how often COLUMN k is taken (2 + k). NONE (no GROUP, no such POINT, "
            + "others).");
        x = cyclic(6, 4);
        for (int i = 0; i < 3; i++) {
            due("no WALK: whole(" + i + ")", x.whole(i), -1);
        }
        x.column(10, 0, 0, 1);
        due("a WALK, no POINT", x.whole(0), -1);
        x.column(2, 0, 0, 9);
        due("COST", x.whole(0), 18);
        due("STEPS", x.whole(1), 2);
        due("COLUMN 0", x.whole(2), 0);
        due("COLUMN 1", x.whole(3), 2);
        int[] no = {-1, 4, 5, 6, 7, 8, 9, MIN, MAX};
        for (int i : no) {
            due("whole(" + i + ")", x.whole(i), -1);
        }
        for (int k = 2; k < 6; k++) {
            x.column(1, 0, 0, 9);
        }
        due("COLUMN 5", x.whole(7), 0);
        x.right(0, 0);
        due("nothing is taken", 10 * x.whole(0) + x.whole(1), 0);
        due("no group", groupless().whole(0), -1);
    }

    // ------------------------------------------------------------------ Promises 31 to 45

    private static void promises31And32() {
        says(31, "VALUE of an ELEMENT in a CUT (element NONE: SCALE). NONE.");
        CornerCuts x = cyclic(5, 3);
        due("no cuts", x.value(0, 0), -1);
        due("no cuts", x.value(0, -1), -1);
        cut(x, "told 999 0 1 2 3");
        due("SCALE", x.value(0, -1), 2);
        due("the first", x.value(0, 0), 999);
        due("the last", x.value(0, 4), 3);
        int[] noElements = {-2, 5, 24, MIN, MAX};
        for (int e : noElements) {
            due("value(0, " + e + ")", x.value(0, e), -1);
        }
        int[] noCuts = {-1, 1, 8, MIN, MAX};
        for (int c : noCuts) {
            due("value(" + c + ", 0)", x.value(c, 0), -1);
            due("value(" + c + ", -1)", x.value(c, -1), -1);
        }
        for (int i = 0; i < 7; i++) {
            cut(x, "both " + i + " " + i);
        }
        due("the greatest VALUE", x.value(7, 0), 999 * 128);
        due("no group", groupless().value(0, 0), -1);

        says(32, "COEFFICIENT of a COLUMN. NONE.");
        due("no columns", x.coefficient(0, 0), -1);
        x.column(-99, 0, 0, 0);
        x.column(99, 0, 0, 0);
        due("of -99", x.coefficient(0, 0), 0);
        due("of 99", x.coefficient(0, 1), 3);
        due("of the last CUT", x.coefficient(7, 1), 3 * 128);
        int[] noColumns = {-1, 2, 6, MIN, MAX};
        for (int k : noColumns) {
            due("coefficient(0, " + k + ")", x.coefficient(0, k), -1);
        }
        x.uncut();
        int[] none = {-1, 7, 8, MIN, MAX};
        for (int c : none) {
            due("coefficient(" + c + ", 0)", x.coefficient(c, 0), -1);
        }
        due("no group", groupless().coefficient(0, 0), -1);
    }

    private static void promise33() {
        says(33, "Of a CUT: how many BAD pairs (what 0), the first one, a by 100 and b (1; NONE without)");
        CornerCuts x = cyclic(5, 3);
        cut(x, "gmi 1");
        cut(x, "told 0 0 0 9 0");
        cut(x, "told 0 9 9 1 9");
        due("none", x.asks(0, 0), 0);
        due("none: the first", x.asks(0, 1), -1);
        // 1 and 2, 4 and 4
        due("two", x.asks(1, 0), 2);
        due("the first", x.asks(1, 1), 102);
        // 3 and 3 make 1, 3 and 0 do not count
        due("one", x.asks(2, 0), 1);
        due("the first", x.asks(2, 1), 303);
        CornerCuts big = square(4, 0, 0, 6);
        big.right(0, 1);
        cut(big, "told" + " 9".repeat(23) + " 0");
        due("23 and 23 below 9", 10000 * big.asks(0, 0) + big.asks(0, 1), 12323);

        says(33, "1 if SUBADDITIVE (2), SYMMETRIC (3), it HOLDS (4), RANK (5), 1 if a FACET (6), how many TIGHT equations "
            + "of pairs (7), LEAST (8; NONE without WALKS), TOUCHED (9).");
        int[] first = {1, 1, 1, 4, 1, 3, -1, 0};
        // of the other one 1 and 1, 1 and 4, 2 and 2, 2 and 4 are tight
        int[] second = {0, 0, 1, 4, 0, 4, -1, 0};
        for (int i = 2; i < 10; i++) {
            due("without WALKS: asks(0, " + i + ")", x.asks(0, i), first[i - 2]);
            due("without WALKS: asks(1, " + i + ")", x.asks(1, i), second[i - 2]);
        }
        x.column(1, 0, 0, 0);
        int[] third = {1, 1, 1, 4, 1, 3, 6, 1};
        int[] fourth = {0, 0, 0, 4, 0, 4, 0, 0};
        for (int i = 2; i < 10; i++) {
            due("asks(0, " + i + ")", x.asks(0, i), third[i - 2]);
            due("asks(1, " + i + ")", x.asks(1, i), fourth[i - 2]);
        }

        says(33, "NONE for others.");
        int[] others = {-1, 10, MIN, MAX};
        for (int i : others) {
            due("asks(0, " + i + ")", x.asks(0, i), -1);
        }
        int[] noCuts = {-1, 3, 8, MIN, MAX};
        for (int c : noCuts) {
            due("asks(" + c + ", 0)", x.asks(c, 0), -1);
            due("asks(" + c + ", 5)", x.asks(c, 5), -1);
        }
        due("no group", groupless().asks(0, 0), -1);
    }

    private static void promises34And35() {
        says(34, "DEPTH of a CUT, COLUMNS 0 .. 5 taken so often (0 .. 99; of those that there are not it is not asked).");
        CornerCuts x = cyclic(5, 3);
        cut(x, "told 9 1 2 3 4");
        due("no columns", x.depth(0, MIN, MAX, -1, 100, -1, 100), 3);
        for (int k = 0; k < 6; k++) {
            x.column(k, 0, 0, 0);
        }
        due("nothing is taken", x.depth(0, 0, 0, 0, 0, 0, 0), 3);
        due("99 of all", x.depth(0, 99, 99, 99, 99, 99, 99), 3 - 99 * (9 + 1 + 2 + 3 + 4 + 9));
        due("COLUMN 5", x.depth(0, 0, 0, 0, 0, 0, 1), 3 - 9);
        due("COLUMN 1", x.depth(0, 0, 1, 0, 0, 0, 0), 2);
        says(34, "Integer.MIN_VALUE for others.");
        int[] bad = {-1, 100, MIN, MAX};
        for (int v : bad) {
            due("a " + v, x.depth(0, v, 0, 0, 0, 0, 0), MIN);
            due("b " + v, x.depth(0, 0, v, 0, 0, 0, 0), MIN);
            due("c " + v, x.depth(0, 0, 0, v, 0, 0, 0), MIN);
            due("d " + v, x.depth(0, 0, 0, 0, v, 0, 0), MIN);
            due("e " + v, x.depth(0, 0, 0, 0, 0, v, 0), MIN);
            due("f " + v, x.depth(0, 0, 0, 0, 0, 0, v), MIN);
        }
        int[] noCuts = {-1, 1, 8, MIN, MAX};
        for (int c : noCuts) {
            due("depth(" + c + ", ..)", x.depth(c, 0, 0, 0, 0, 0, 0), MIN);
        }
        x.drop(5);
        due("COLUMN 5 is not asked any more", x.depth(0, 0, 0, 0, 0, 0, 100), 3);
        due("no group", groupless().depth(0, 0, 0, 0, 0, 0, 0), MIN);

        says(35, "Whether one CUT is over another. False for others.");
        cut(x, "told 9 0 2 3 4");
        due("isOver(1, 0)", x.isOver(1, 0), true);
        due("isOver(0, 1)", x.isOver(0, 1), false);
        due("isOver(0, 0)", x.isOver(0, 0), false);
        int[] none = {-1, 2, 8, MIN, MAX};
        for (int c : none) {
            due("isOver(1, " + c + ")", x.isOver(1, c), false);
            due("isOver(" + c + ", 0)", x.isOver(c, 0), false);
            due("isOver(" + c + ", " + c + ")", x.isOver(c, c), false);
        }
        due("no group", groupless().isOver(0, 0), false);
        CornerCuts big = cyclic(2, 1);
        cut(big, "told 999 999");
        for (int i = 0; i < 6; i++) {
            cut(big, "both " + i + " " + i);
        }
        cut(big, "told 998 999");
        big.column(0, 0, 0, 0);
        due("by great numbers: below", big.isOver(7, 6), true);
        due("by great numbers: above", big.isOver(6, 7), false);
    }

    private static void promises36And37() {
        says(36, "The TABLE: how many FUNCTIONS (what 0), how many of them are FACETS (1). NONE (no GROUP, others).");
        CornerCuts x = cyclic(5, 3);
        due("table(0)", x.table(0), 2);
        due("table(1)", x.table(1), 2);
        int[] others = {-1, 2, MIN, MAX};
        for (int i : others) {
            due("table(" + i + ")", x.table(i), -1);
        }
        CornerCuts empty = cyclic(5, 5);
        due("empty", empty.table(0), 0);
        due("empty", empty.table(1), 0);
        due("one element", new CornerCuts().table(0), 0);
        due("no group", groupless().table(0), -1);
        due("no group", groupless().table(1), -1);
        x.basis(0, 0, 7);
        due("another group: table(0)", x.table(0), 3);
        due("another group: table(1)", x.table(1), 3);
        x.basis(0, 0, 4);
        due("a smaller one: table(0)", x.table(0), 2);
        due("a smaller one: table(1)", x.table(1), 2);
        x.undo();
        x.undo();
        due("undone: table(0)", x.table(0), 2);
        due("undone: table(1)", x.table(1), 2);
        CornerCuts y = square(2, 0, 0, 2);
        y.right(0, 1);
        due("rests by 2 and 2", y.table(0), 2);
        y.basis(0, 0, 3);
        y.basis(1, 1, 3);
        due("rests by 3 and 3", y.table(0), 3);
        due("rests by 3 and 3: table(1)", y.table(1), 3);

        says(37, "Of the i-th FUNCTION of the TABLE the VALUE of an ELEMENT (element NONE: 1 if it is a FACET). NONE (no "
            + "GROUP, others).");
        due("the first", tabled(x, 0), "0 2 4 6 3");
        due("the last", tabled(x, 1), "0 3 1 4 2");
        due("FACET", x.tabled(0, -1), 1);
        due("FACET", x.tabled(1, -1), 1);
        int[] noFunctions = {-1, 2, 24, MIN, MAX};
        for (int i : noFunctions) {
            due("tabled(" + i + ", 0)", x.tabled(i, 0), -1);
            due("tabled(" + i + ", -1)", x.tabled(i, -1), -1);
        }
        int[] noElements = {-2, 5, 24, MIN, MAX};
        for (int e : noElements) {
            due("tabled(0, " + e + ")", x.tabled(0, e), -1);
        }
        due("empty", empty.tabled(0, 0), -1);
        due("empty", empty.tabled(0, -1), -1);
        due("no group", groupless().tabled(0, 0), -1);
        due("no group", groupless().tabled(0, -1), -1);
        CornerCuts six = cyclic(6, 3);
        // 0 1 0 1 0 1 has the tight 2 and 2, 2 and 4, 4 and 4, 1 and 2, .. ; all but the multiples of it are 0
        due("a FACET of rests by 2", six.tabled(0, -1), 1);
    }

    private static void promises38To40() {
        says(38, "ZEROS of a CUT, as bits (what 0), 1 if they make a SUBGROUP, else 0 (1). NONE for others.");
        CornerCuts x = square(4, 0, 0, 6);
        x.right(0, 1);
        cut(x, "told" + " 0".repeat(6) + " 1" + " 0".repeat(17));
        due("all but GOAL, the last too", x.zeros(0, 0), (1 << 24) - 1 - (1 << 6));
        due("no SUBGROUP", x.zeros(0, 1), 0);
        cut(x, "told" + " 1".repeat(24));
        due("none", x.zeros(1, 0), 0);
        due("none", x.zeros(1, 1), 0);
        cut(x, "told" + " 0".repeat(6) + " 1".repeat(18));
        due("ELEMENTS 0 .. 5", x.zeros(2, 0), 63);
        due("ELEMENTS 0 .. 5", x.zeros(2, 1), 1);
        int[] others = {-1, 2, MIN, MAX};
        for (int i : others) {
            due("zeros(0, " + i + ")", x.zeros(0, i), -1);
        }
        int[] noCuts = {-1, 3, 8, MIN, MAX};
        for (int c : noCuts) {
            due("zeros(" + c + ", 0)", x.zeros(c, 0), -1);
            due("zeros(" + c + ", 1)", x.zeros(c, 1), -1);
        }
        due("no group", groupless().zeros(0, 0), -1);

        says(39, "BOUND of a CUT, in lowest terms: the upper number (what 0), the lower one (1). NONE (none; others).");
        x = cyclic(6, 3);
        cut(x, "told 0 4 0 6 2 1");
        due("no columns", x.bound(0, 0), -1);
        due("no columns", x.bound(0, 1), -1);
        x.column(2, 0, 0, 9);
        due("COEFFICIENT 0", x.bound(0, 0), -1);
        due("COEFFICIENT 0", x.bound(0, 1), -1);
        x.column(1, 0, 0, 99);
        due("594 by 4: the upper", x.bound(0, 0), 297);
        due("594 by 4: the lower", x.bound(0, 1), 2);
        x.column(3, 0, 0, 99);
        due("594 by 6: the upper", x.bound(0, 0), 99);
        due("594 by 6: the lower", x.bound(0, 1), 1);
        x.column(5, 0, 0, 16);
        due("96 by 1: the upper", x.bound(0, 0), 96);
        due("96 by 1: the lower", x.bound(0, 1), 1);
        x.cost(1, 63);
        due("378 by 4: the upper", x.bound(0, 0), 189);
        due("378 by 4: the lower", x.bound(0, 1), 2);
        x.cost(1, 0);
        due("0: the upper", x.bound(0, 0), 0);
        due("0: the lower", x.bound(0, 1), 1);
        for (int i : others) {
            due("bound(0, " + i + ")", x.bound(0, i), -1);
        }
        int[] none = {-1, 1, 8, MIN, MAX};
        for (int c : none) {
            due("bound(" + c + ", 0)", x.bound(c, 0), -1);
        }
        due("no group", groupless().bound(0, 0), -1);
        CornerCuts big = cyclic(2, 1);
        cut(big, "told 1 999");
        for (int i = 0; i < 6; i++) {
            cut(big, "both " + i + " 0");
        }
        big.column(0, 0, 0, 99);
        due("the greatest: the upper", big.bound(6, 0), 99 * 999);
        due("the greatest: the lower", big.bound(6, 1), 1);

        says(40, "The CUT that HOLDS with the greatest BOUND, the first. NONE (none has one).");
        x = cyclic(5, 3);
        due("no cuts", x.tightest(), -1);
        cut(x, "told 0 1 1 9 9");
        due("no columns", x.tightest(), -1);
        x.column(1, 0, 0, 4);
        x.column(2, 0, 0, 3);
        due("it does not HOLD", x.tightest(), -1);
        cut(x, "told 0 0 0 1 0");
        due("nor has the other one a BOUND", x.tightest(), -1);
        cut(x, "told 0 9 9 1 9");
        due("the one that HOLDS", x.tightest(), 2);
        cut(x, "gmi 1");
        due("the greatest", x.tightest(), 3);
        cut(x, "both 3 3");
        due("the first of like ones", x.tightest(), 3);
        cut(x, "told 0 7 4 9 9");
        // 4 times 9 by 7, 3 times 9 by 4: 36/7 is above 9/2
        due("a greater one behind", x.tightest(), 5);
        x.cost(0, 0);
        x.cost(1, 0);
        due("all are 0: the first", x.tightest(), 2);
        CornerCuts first = cyclic(5, 3);
        first.column(3, 0, 0, 4);
        cut(first, "gmi 1");
        cut(first, "gmi 2");
        due("the very first", first.tightest(), 0);
        due("no group", groupless().tightest(), -1);
    }

    private static void promises41To43() {
        says(41, "SHOT at an ELEMENT: the FUNCTION of the TABLE. NONE (an empty TABLE, others).");
        CornerCuts x = cyclic(5, 3);
        CornerCuts empty = cyclic(5, -5);
        due("shot(0)", x.shot(0), 0);
        due("shot(2)", x.shot(2), 1);
        due("shot(4)", x.shot(4), 0);
        int[] noElements = {-1, 5, 24, MIN, MAX};
        for (int e : noElements) {
            due("shot(" + e + ")", x.shot(e), -1);
        }
        due("an empty TABLE", empty.shot(0), -1);
        due("no group", groupless().shot(0), -1);

        says(42, "DEEPEST for COLUMNS 0 .. 5 taken so often (0 .. 99; of those that there are not it is not asked): the "
            + "FUNCTION of the TABLE. NONE (an empty TABLE, others).");
        due("no columns", x.deepest(MIN, MAX, -1, 100, -1, 100), 0);
        for (int k = 0; k < 6; k++) {
            x.column(k == 5 ? 7 : k + 5, 0, 0, 0);
        }
        due("nothing is taken", x.deepest(0, 0, 0, 0, 0, 0), 0);
        due("99 of COLUMN 5", x.deepest(0, 0, 0, 0, 0, 99), 1);
        due("99 of COLUMNS 1 and 2", x.deepest(99, 99, 99, 99, 99, 0), 0);
        int[] bad = {-1, 100, MIN, MAX};
        for (int v : bad) {
            due("a " + v, x.deepest(v, 0, 0, 0, 0, 0), -1);
            due("b " + v, x.deepest(0, v, 0, 0, 0, 0), -1);
            due("c " + v, x.deepest(0, 0, v, 0, 0, 0), -1);
            due("d " + v, x.deepest(0, 0, 0, v, 0, 0), -1);
            due("e " + v, x.deepest(0, 0, 0, 0, v, 0), -1);
            due("f " + v, x.deepest(0, 0, 0, 0, 0, v), -1);
        }
        x.drop(5);
        due("COLUMN 5 is not asked any more", x.deepest(0, 0, 0, 0, 0, 100), 0);
        due("an empty TABLE", empty.deepest(0, 0, 0, 0, 0, 0), -1);
        due("no group", groupless().deepest(0, 0, 0, 0, 0, 0), -1);

        says(43, "MIDDLE of a CUT: 100 i and j. NONE (none; others).");
        due("no cuts", x.middle(0), -1);
        cut(x, "told 0 26 22 48 24");
        cut(x, "gmi 1");
        due("of 0 and 1", x.middle(0), 1);
        due("none", x.middle(1), -1);
        int[] noCuts = {-1, 2, 8, MIN, MAX};
        for (int c : noCuts) {
            due("middle(" + c + ")", x.middle(c), -1);
        }
        cut(empty, "told 1 1 1 1 1");
        due("an empty TABLE", empty.middle(0), -1);
        due("no group", groupless().middle(0), -1);
        CornerCuts last = cyclic(7, 3);
        int[] scales = {last.tabled(0, 3), last.tabled(1, 3), last.tabled(2, 3)};
        for (int i = 0; i < 2; i++) {
            StringBuilder t = new StringBuilder("told");
            for (int e = 0; e < 7; e++) {
                t.append(' ').append(last.tabled(i, e) * scales[2] + last.tabled(2, e) * scales[i]);
            }
            cut(last, t.toString());
            due("of " + i + " and 2", last.middle(i), 100 * i + 2);
        }
    }

    private static void promise44() {
        says(44, "0 ROWS, 1 COLUMNS, 2 CUTS, 3 ELEMENTS (0: no GROUP), 4 how many can be undone, 5 bytes of the TAPE");
        CornerCuts x = full();
        type(x, "x".repeat(400));
        int[] most = {1, 6, 8, 5, 10, 400};
        for (int i = 0; i < 6; i++) {
            due("count(" + i + ")", x.count(i), most[i]);
        }
        due("no group", groupless().count(3), 0);
        due("D 24", square(4, 0, 0, 6).count(3), 24);
        due("D 25", square(5, 0, 0, 5).count(3), 0);

        says(44, "6 .. 10 how many calls were REFUSED by -1, -2, -4, -5, -6");
        x.rows(0);
        x.drop(6);
        x.drop(6);
        x.back(0);
        x.back(0);
        x.back(0);
        for (int i = 0; i < 4; i++) {
            x.column(0, 0, 0, 0);
        }
        x.uncut();
        for (int i = 0; i < 5; i++) {
            cut(x, "x");
        }
        for (int i = 6; i <= 10; i++) {
            due("count(" + i + ")", x.count(i), i - 5);
        }
        x.rows(2);
        x.undo();
        x.image(0);
        x.back(0);
        for (int i = 6; i <= 10; i++) {
            due("they stay: count(" + i + ")", x.count(i), i - 5);
        }

        says(44, "11 + i NUMBER i of the RIGHT SIDE (i below m; it may be below 0), 14 + 3 r + c that of the BASIS in row "
            + "r, column c (likewise).");
        for (int m = 1; m <= 3; m++) {
            x.rows(m);
            for (int i = 0; i < m; i++) {
                x.right(i, -99 + i);
            }
            for (int i = 0; i < 3; i++) {
                due("rows " + m + ": count(" + (11 + i) + ")", x.count(11 + i), i < m ? -99 + i : -1);
            }
            for (int i = 0; i < m * m; i++) {
                x.basis(i / m, i % m, i - 9);
            }
            for (int i = 0; i < 9; i++) {
                int want = i / 3 < m && i % 3 < m ? i / 3 * m + i % 3 - 9 : -1;
                due("rows " + m + ": count(" + (14 + i) + ")", x.count(14 + i), want);
            }
        }
        says(44, "NONE for others.");
        int[] others = {-1, 23, 24, MIN, MAX};
        for (int i : others) {
            due("count(" + i + ")", x.count(i), -1);
        }
    }

    private static void promise45() {
        says(45, "What the latest call of rows, basis, right, column, cost, drop, cut, listing, uncut, undo, image, back "
            + "was REFUSED by");
        CornerCuts x = full();
        int[] got = {x.rows(0), x.basis(9, 0, 0), x.right(9, 0), x.column(0, 0, 0, 0), x.cost(6, 0), x.drop(6), x.cut(),
            x.listing(8), x.image(2), x.back(0)};
        int[] want = {-1, -1, -1, -5, -2, -2, -5, -2, -1, -4};
        for (int i = 0; i < got.length; i++) {
            due("call " + i, got[i], want[i]);
        }
        due("of the latest", x.status(), -4);
        x.rows(0);
        due("rows", x.status(), -1);
        x.cost(6, 0);
        due("cost", x.status(), -2);
        x.basis(9, 0, 0);
        due("basis", x.status(), -1);
        x.drop(6);
        due("drop", x.status(), -2);
        x.right(9, 0);
        due("right", x.status(), -1);
        x.listing(8);
        due("listing", x.status(), -2);
        x.cut();
        due("cut", x.status(), -5);
        x.image(2);
        due("image", x.status(), -1);
        x.column(0, 0, 0, 0);
        due("column", x.status(), -5);
        x.back(0);
        due("back", x.status(), -4);
        CornerCuts y = new CornerCuts();
        y.cut();
        due("cut", y.status(), -6);
        y.uncut();
        due("uncut", y.status(), -4);
        y.rows(0);
        y.undo();
        due("undo", y.status(), -4);

        says(45, "0 if it was not, or ahead of any.");
        due("ahead of any", new CornerCuts().status(), 0);
        String[] names = {"rows", "basis", "right", "column", "cost", "drop", "cut", "listing", "uncut", "undo", "image",
            "back"};
        for (int i = 0; i < names.length; i++) {
            x = rich();
            x.drop(9);
            due("REFUSED", x.status(), -2);
            accepted(x, i);
            due(names[i], x.status(), 0);
        }
        x = rich();
        x.drop(9);
        others(x);
        due("what other calls answer is not asked", x.status(), -2);
        due("what other calls answer is not counted", x.count(6) + x.count(8) + x.count(9), 0);
        x.rows(2);
        others(x);
        due("what other calls answer is not asked", x.status(), 0);
    }

    /** A call that is not refused where rich() stands. */
    private static void accepted(CornerCuts x, int call) {
        int[] got = new int[1];
        switch (call) {
            case 0 -> got[0] = x.rows(1);
            case 1 -> got[0] = x.basis(0, 0, 5);
            case 2 -> got[0] = x.right(0, 3);
            case 3 -> got[0] = x.column(0, 0, 0, 0);
            case 4 -> got[0] = x.cost(0, 0);
            case 5 -> got[0] = x.drop(0);
            case 6 -> got[0] = x.cut();
            case 7 -> got[0] = x.listing(0);
            case 8 -> got[0] = x.uncut();
            case 9 -> got[0] = x.undo();
            case 10 -> got[0] = x.image(1);
            default -> got[0] = x.back(0);
        }
        due("call " + call + " is not REFUSED", got[0] >= 0, true);
    }

    /** All the calls that are never REFUSED, with numbers that can't be. */
    private static void others(CornerCuts x) {
        x.end(-1);
        x.end(0);
        x.feed(0, 0, 0, 0, 0);
        x.fault();
        x.tape(-1);
        x.determinant();
        x.hermite(-1, 9);
        x.invariant(9);
        x.element(MAX, MAX, MAX);
        x.least(-1, 0);
        x.plus(-1, 0);
        x.order(-1);
        x.goal(9);
        x.made();
        x.walk(99);
        x.basic(9);
        x.far(-1, 0);
        x.whole(99);
        x.value(9, 0);
        x.coefficient(9, 9);
        x.asks(9, 9);
        x.depth(9, 0, 0, 0, 0, 0, 0);
        x.isOver(9, 9);
        x.table(9);
        x.tabled(99, 0);
        x.zeros(9, 9);
        x.bound(9, 9);
        x.tightest();
        x.shot(99);
        x.deepest(-1, -1, -1, -1, -1, -1);
        x.middle(9);
        x.count(99);
    }

    private static void lastCall() {
        says(0, "An object is used for at most 512 calls after it has been made");
        CornerCuts x = new CornerCuts();
        for (int i = 1; i <= 511; i++) {
            x.rows(0);
        }
        due("the 512th call", x.count(6), 511);
        x = cyclic(5, 3);
        x.feed(0x676D6920, 0x31202020, 0x20202020, 0x20202020, 0x20202020);
        x.cut();
        for (int i = 0; i < 168; i++) {
            x.listing(0);
            x.cut();
            x.uncut();
        }
        due("the 510th call", x.count(2), 1);
        due("the 511th call", x.status(), 0);
        due("the 512th call", x.value(0, -1), 6);
    }
}
