/** For each promise of the document: ordinary inputs, the edges that it names, wrong inputs. */
public final class CornerCutsPromises {
    private static final int MIN = Integer.MIN_VALUE;
    private static int wrong = 0;

    private static void due(String what, long got, long want) {
        if (got != want) {
            wrong++;
            System.out.println(what + " answered " + got + ", due is " + want);
        }
    }

    public static void main(String[] args) {
        promises1To5();
        promises6And7();
        promises8And9();
        promise10Words();
        promise10Refusals();
        promises11To14();
        promise15();
        promises16And17();
        promises18To21();
        promises22To25();
        promises26To29();
        promise30();
        promises31And32();
        promise33();
        promises34And35();
        promises36And37();
        promises38To40();
        promises41To43();
        promises44And45();
        System.out.println(wrong == 0 ? "all promises hold" : wrong + " answers are not as due");
        if (wrong != 0) {
            System.exit(1);
        }
    }

    /** Puts a text on the tape in place of all. */
    private static void type(CornerCuts x, String t) {
        x.end(0);
        for (int i = 0; i < t.length(); i += 20) {
            int[] f = new int[5];
            for (int j = 0; j < 20; j++) {
                int b = i + j < t.length() ? t.charAt(i + j) : 7;
                f[j / 4] |= b << (24 - 8 * (j % 4));
            }
            x.feed(f[0], f[1], f[2], f[3], f[4]);
        }
        x.end(t.length());
    }

    private static int cut(CornerCuts x, String t) {
        type(x, t);
        return x.cut();
    }

    private static String onTape(CornerCuts x) {
        StringBuilder t = new StringBuilder();
        for (int i = 0; x.tape(i) != -1; i++) {
            t.append((char) x.tape(i));
        }
        return t.toString();
    }

    private static void values(String what, CornerCuts x, int cut, int... want) {
        for (int e = 0; e < want.length; e++) {
            due(what + ": value(" + cut + ", " + e + ")", x.value(cut, e), want[e]);
        }
        due(what + ": value behind", x.value(cut, want.length), -1);
    }

    /** One row, a basis of one number, a right side. */
    private static CornerCuts cyclic(int d, int goal) {
        CornerCuts x = new CornerCuts();
        x.rows(1);
        x.basis(0, 0, d);
        x.right(0, goal);
        return x;
    }

    /** Three rows, 2 2 6 on the diagonal, so 24 elements. */
    private static CornerCuts greatest() {
        CornerCuts x = new CornerCuts();
        x.rows(3);
        x.basis(0, 0, 2);
        x.basis(1, 1, 2);
        x.basis(2, 2, 6);
        return x;
    }

    private static void promises1To5() {
        CornerCuts x = new CornerCuts();
        due("1: NONE", CornerCuts.NONE, -1);
        int[] first = {2, 0, 0, 1, 0, 0, 0, 0, 0, 0, 0, 0, 0, -1, 1, 0, -1, 0, 1, -1, -1, -1, -1, -1};
        for (int i = 0; i < first.length; i++) {
            due("1: count(" + i + ")", x.count(i), first[i]);
        }
        due("1: status()", x.status(), 0);
        due("1: fault()", x.fault(), -1);
        due("1: determinant()", x.determinant(), 1);

        due("2: rows(0)", x.rows(0), -1);
        due("2: rows(4)", x.rows(4), -1);
        due("2: rows(MIN)", x.rows(MIN), -1);
        due("2: status()", x.status(), -1);
        x.basis(0, 0, 5);
        x.right(0, 3);
        x.column(1, 0, 0, 4);
        due("2: cut()", cut(x, "gmi 1 0"), 0);
        due("2: rows(2)", x.rows(2), 2);
        due("2: columns go", x.count(1), 0);
        due("2: cuts go", x.count(2), 0);
        due("2: basis anew", x.count(14), 1);
        due("2: right anew", x.count(11), 0);
        due("2: rows(3)", x.rows(3), 3);
        due("2: count(22)", x.count(22), 1);
        due("2: rows(1)", x.rows(1), 1);
        due("2: count(15)", x.count(15), -1);

        x.rows(2);
        due("3: basis(0, 1, -9)", x.basis(0, 1, -9), 0);
        due("3: basis(0, 1, 9)", x.basis(0, 1, 9), -9);
        due("3: status of an answer below 0", x.status(), 0);
        int[][] badBasis = {{2, 0, 1}, {0, 2, 1}, {-1, 0, 1}, {0, -1, 1}, {0, 0, 10}, {0, 0, -10}};
        for (int[] b : badBasis) {
            due("3: basis(" + b[0] + ", " + b[1] + ", " + b[2] + ")", x.basis(b[0], b[1], b[2]), -1);
            due("3: status()", x.status(), -1);
        }
        due("3: basis(0, 1, 0)", x.basis(0, 1, 0), 9);

        due("4: right(1, 99)", x.right(1, 99), 0);
        due("4: right(1, -99)", x.right(1, -99), 99);
        due("4: count(12)", x.count(12), -99);
        due("4: right(2, 0)", x.right(2, 0), -1);
        due("4: right(-1, 0)", x.right(-1, 0), -1);
        due("4: right(0, 100)", x.right(0, 100), -1);
        due("4: right(0, -100)", x.right(0, -100), -1);
        due("4: right stays", x.count(12), -99);

        int before = x.count(6);
        due("5: number", x.column(100, 0, 0, 0), -1);
        due("5: number", x.column(0, -100, 0, 0), -1);
        due("5: cost", x.column(0, 0, 0, -1), -1);
        due("5: cost", x.column(0, 0, 0, 100), -1);
        due("5: refused", x.count(6), before + 4);
        due("5: beyond m", x.column(99, -99, 12345, 99), 0);
        for (int k = 1; k < 6; k++) {
            due("5: column", x.column(k, k, k, k), k);
        }
        due("5: -1 ahead of -5", x.column(100, 0, 0, 0), -1);
        due("5: no room", x.column(0, 0, 0, 0), -5);
        due("5: count(1)", x.count(1), 6);
    }

    private static void promises6And7() {
        CornerCuts x = cyclic(7, 3);
        due("6: no column", x.cost(0, 5), -2);
        due("6: -1 ahead of -2", x.cost(0, 100), -1);
        x.column(1, 0, 0, 4);
        x.column(2, 0, 0, 5);
        x.column(3, 0, 0, 6);
        due("6: cost(1, 99)", x.cost(1, 99), 5);
        due("6: cost(1, 0)", x.cost(1, 0), 99);
        due("6: cost(1, -1)", x.cost(1, -1), -1);
        due("6: cost(-1, 0)", x.cost(-1, 0), -2);
        due("6: cost(3, 0)", x.cost(3, 0), -2);
        due("6: of it a walk", x.far(2, 0), 0);

        due("7: drop(3)", x.drop(3), -2);
        due("7: drop(-1)", x.drop(-1), -2);
        due("7: drop(1)", x.drop(1), 2);
        due("7: those above are 1 less", x.goal(1), 3);
        due("7: with their cost", x.cost(1, 6), 6);
        due("7: column 0 stays", x.goal(0), 1);
        due("7: drop(1)", x.drop(1), 1);
        due("7: drop(0)", x.drop(0), 0);
        due("7: drop(0)", x.drop(0), -2);
    }

    private static void promises8And9() {
        CornerCuts x = new CornerCuts();
        due("8: feed", x.feed(0x01020304, 0x80FF0000, -1, 0, 0x7F7E7D7C), 20);
        int[] bytes = {1, 2, 3, 4, 128, 255, 0, 0, 255, 255, 255, 255, 0, 0, 0, 0, 127, 126, 125, 124, -1};
        for (int i = 0; i < bytes.length; i++) {
            due("8, 13: tape(" + i + ")", x.tape(i), bytes[i]);
        }
        due("13: tape(-1)", x.tape(-1), -1);
        for (int i = 2; i <= 20; i++) {
            due("8: feed", x.feed(i, i, i, i, i), 20 * i);
        }
        due("8: full", x.feed(1, 1, 1, 1, 1), -1);
        due("8: length stays", x.count(5), 400);
        due("13: last", x.tape(399), 20);
        due("13: behind", x.tape(400), -1);
        due("9: end(401)", x.end(401), -1);
        due("9: end(-1)", x.end(-1), -1);
        due("9: end(400)", x.end(400), 400);
        due("9: end(381)", x.end(381), 381);
        due("8: more than 400", x.feed(1, 1, 1, 1, 1), -1);
        due("9: end(380)", x.end(380), 380);
        due("8: just 400", x.feed(1, 1, 1, 1, 1), 400);
        due("9: end(0)", x.end(0), 0);
        due("9: end(1)", x.end(1), -1);
        due("9: not refused", x.count(6), 0);
        due("9: status()", x.status(), 0);
    }

    private static void promise10Words() {
        CornerCuts x = cyclic(5, 3);
        due("10: gmi", cut(x, "gmi 1"), 0);
        values("10: gmi 1", x, 0, 0, 2, 4, 6, 3);
        due("10: gmi of minus", cut(x, "gmi -1"), 1);
        values("10: gmi -1", x, 1, 0, 2, 4, 6, 3);
        due("10: frac", cut(x, "frac 2"), 2);
        values("10: frac 2", x, 2, 0, 2, 4, 1, 3);
        due("10: step", cut(x, "step 2 1"), 3);
        values("10: step 2 1", x, 3, 0, 3, 1, 4, 2);
        due("10: both", cut(x, "both 0 3"), 4);
        values("10: both", x, 4, 0, 5, 5, 10, 5);
        due("10: told", cut(x, "told 4 1 9 9 1"), 5);
        values("10: told", x, 5, 4, 1, 9, 9, 1);
        due("10: hull", cut(x, "hull 5"), 6);
        values("10: hull", x, 6, 0, 1, 2, 2, 1);
        due("10: a cut twice", cut(x, "both 6 6"), 7);
        values("10: both 6 6", x, 7, 0, 2, 4, 4, 2);
        type(x, "gmi 1");
        due("10: no room", x.cut(), -5);
        due("10: the tape stays", x.count(5), 5);
        due("10: nonsense is not read then", cut(x, "x"), -5);
        due("10: fault stays", x.fault(), -1);

        CornerCuts y = greatest();
        y.right(2, 5);
        due("10: three multipliers", cut(y, "frac 9 -9 1"), 0);
        due("10: PART of (0, 0, 1)", y.value(0, 1), 4);
        due("10: PART of (0, 1, 0)", y.value(0, 6), 12);
        due("10: PART of (1, 0, 0)", y.value(0, 12), 12);
        due("10: PART of (1, 1, 5)", y.value(0, 23), 20);
        due("10: SCALE", y.value(0, -1), 20);

        CornerCuts z = new CornerCuts();
        z.basis(0, 0, 0);
        z.basis(0, 1, 3);
        z.basis(1, 0, 2);
        z.basis(1, 1, 1);
        due("10: determinant below 0", z.determinant(), -6);
        z.right(0, 1);
        due("10: multipliers by rows of y", cut(z, "frac 0 1"), 0);
        due("10: PART by the second", z.value(0, z.element(1, 0, 0)), 2);
        due("10: multipliers by rows of y", cut(z, "frac 1 0"), 1);
        due("10: PART by the first", z.value(1, z.element(1, 0, 0)), 5);
        due("10: PART by the first", z.value(1, z.element(0, 1, 0)), 3);
    }

    private static void fault(CornerCuts x, String t, int place) {
        int cuts = x.count(2);
        int before = x.count(10);
        due("10: [" + t + "]", cut(x, t), -6);
        due("11: [" + t + "]", x.fault(), place);
        due("10: the tape is empty", x.count(5), 0);
        due("10: no cut", x.count(2), cuts);
        due("44: refused by -6", x.count(10), before + 1);
        due("45: status()", x.status(), -6);
    }

    private static void promise10Refusals() {
        CornerCuts x = cyclic(5, 3);
        String[] bad = {"", "   ", "gmi", "gmi ", " gmi", "gmo 1", "gmii 1", "1 gmi", "GMI 1", "gmi 10", "gmi -10",
            "gmi 1000000", "gmi 0000001", "gmi - 1", "gmi -", "gmi --1", "gmi 1-1", "gmi 1 x", "gmi x",
            "gmi 1 2", "gmi +1", "gmi\t1", "step 0 1", "step 24 1", "step -1 1", "step 1", "both 0 0", "hull 0",
            "hull", "told 1 2 3 4", "told 1 2 3 4 5 6", "told 1 2 3 4 1000", "told -1 2 3 4 5", "told 1 2 3 4 5x",
            "gmi 1\0", "-", "told 99999999999999999999 1", "frac 4294967297", "step 000001 0000009",
            "gmiz 1", "agmi 1", "step 23 1x"};
        int[] places = {0, 3, 3, 4, 4, 0, 0, 0, 0, 4, 4, 4, 4, 4, 4, 4, 5, 6, 4, 6, 4, 3, 5, 5, 5, 6, 5, 5, 4, 12,
            15, 13, 5, 14, 5, 0, 5, 5, 12, 0, 0, 9};
        for (int i = 0; i < bad.length; i++) {
            // an object is good for 512 calls alone
            fault(cyclic(5, 3), bad[i], places[i]);
        }
        String[] good = {"gmi 1 ", "  gmi   1  ", "gmi1", "gmi-1", "step2-1", "gmi 000001", "gmi -000001"};
        for (String t : good) {
            due("10: [" + t + "]", cut(x, t), 0);
            due("11: [" + t + "]", x.fault(), -1);
            x.uncut();
        }
        due("10: scale", cut(x, "told 1 1 1 0 1"), -4);
        due("10: scale of gmi", cut(x, "gmi 5"), -4);
        due("10: scale of frac", cut(x, "frac 0"), -4);
        due("10: scale of step", cut(x, "step 5 1"), -4);
        due("10: the tape is empty", x.count(5), 0);
        due("10: cut, then", cut(x, "told 0 0 1 1 0"), 0);
        due("10: scale of hull", cut(x, "told 0 0 0 1 1"), 1);
        due("10: scale of hull", cut(x, "hull 1"), -4);
        fault(x, "both 0 2", 7);
        fault(x, "both 0 -1", 7);
        due("10: -0", cut(x, "both -0 1"), 2);
        x.listing(2);
        due("12: -0", onTape(x).equals("both 0 1") ? 1 : 0, 1);

        CornerCuts y = cyclic(5, 5);
        due("10: goal 0", cut(y, "gmi 1"), -4);
        due("10: goal 0", cut(y, "told 7 1 1 1 1"), 0);
        due("10: goal 0", y.value(0, -1), 7);
        due("10: hull of 0 is 0", cut(y, "hull 0"), -4);
        y.basis(0, 0, 0);
        type(y, "gmi 1");
        due("10: no group", y.cut(), -4);
        due("10: the tape is empty", y.count(5), 0);
        due("11: nor a fault", y.fault(), -1);
    }

    private static void promises11To14() {
        CornerCuts x = cyclic(5, 3);
        due("11: ahead of any", x.fault(), -1);
        cut(x, "nothing");
        due("11: -6", x.fault(), 0);
        x.basis(0, 0, 0);
        due("11: -4 without a group", cut(x, "gmi 1"), -4);
        due("11: stays", x.fault(), 0);
        x.undo();
        due("11: -4 of scale", cut(x, "frac 0"), -4);
        due("11: none", x.fault(), -1);
        cut(x, "gmi 1 1");
        due("11: -6", x.fault(), 6);
        for (int i = 0; i < 8; i++) {
            due("11: cut()", cut(x, "step 00" + (i + 1) + "    -" + (i % 4 + 1)), i == 4 ? -4 : i > 4 ? i - 1 : i);
            due("11: none", x.fault(), -1);
        }
        cut(x, "step 1 11");
        due("11: -6", x.fault(), 7);
        cut(x, "step 1 1");
        due("11: -5", cut(x, "gmi x"), -5);
        due("11: stays", x.fault(), -1);

        String[] texts = {"step 1 -1", "step 2 -2", "step 3 -3", "step 4 -4", "step 6 -2", "step 7 -3", "step 8 -4"};
        for (int i = 0; i < texts.length; i++) {
            due("12: listing(" + i + ")", x.listing(i), texts[i].length());
            due("12: [" + texts[i] + "]", onTape(x).equals(texts[i]) ? 1 : 0, 1);
        }
        due("12: listing(8)", x.listing(8), -2);
        due("12: listing(-1)", x.listing(-1), -2);
        due("12: the tape stays", x.count(5), 9);
        CornerCuts y = greatest();
        y.right(2, 1);
        String told = "told 0 999 10 100 9 99 0 999 10 100 9 99 0 999 10 100 9 99 0 999 10 100 9 99";
        due("12: long", cut(y, told), 0);
        due("12: long", y.listing(0), told.length());
        due("12: long", onTape(y).equals(told) ? 1 : 0, 1);
        due("12: can be read again", y.cut(), 1);

        due("14: uncut()", x.uncut(), 7);
        due("14: uncut()", x.uncut(), 6);
        due("14: the latest goes", x.value(6, 0), -1);
        due("14: the others stay", x.value(5, 0), 0);
        for (int i = 5; i >= 0; i--) {
            due("14: uncut()", x.uncut(), i);
        }
        due("14: none", x.uncut(), -4);
    }

    private static void promise15() {
        CornerCuts x = new CornerCuts();
        due("15: none", x.undo(), -4);
        x.rows(1);
        x.basis(0, 0, 5);
        x.right(0, 3);
        x.column(1, 0, 0, 4);
        x.cost(0, 9);
        x.column(2, 0, 0, 1);
        x.drop(0);
        cut(x, "gmi 1");
        x.uncut();
        x.cost(7, 7);
        due("15: how many", x.count(4), 9);
        type(x, "gmx");
        due("15: uncut", x.undo(), 7);
        due("15: the cut is there", x.value(0, -1), 6);
        due("15: cut", x.undo(), 6);
        due("15: no cut", x.count(2), 0);
        due("15: the tape stays", x.count(5), 3);
        due("15: drop", x.undo(), 5);
        due("15: both columns", x.goal(1), 2);
        due("15: column", x.undo(), 3);
        due("15: one column", x.count(1), 1);
        due("15: cost", x.undo(), 4);
        due("15: as it was", x.far(1, 0), 4);
        due("15: column", x.undo(), 3);
        due("15: right", x.undo(), 2);
        due("15: goal", x.goal(-1), 0);
        due("15: basis", x.undo(), 1);
        due("15: one element", x.count(3), 1);
        due("15: rows", x.undo(), 0);
        due("15: two rows", x.count(0), 2);
        due("15: what is refused stays", x.count(7), 1);
        due("15: none", x.undo(), -4);
        due("15: refused", x.count(8), 2);

        for (int i = 1; i <= 11; i++) {
            x.right(0, i);
        }
        due("15: 10 are kept", x.count(4), 10);
        for (int i = 10; i >= 1; i--) {
            due("15: undo()", x.undo(), 2);
            due("15: back by one", x.count(11), i);
        }
        due("15: no more", x.undo(), -4);
        due("15: no more", x.count(11), 1);

        CornerCuts y = cyclic(5, 3);
        cut(y, "gmi 1");
        y.column(1, 0, 0, 1);
        y.rows(3);
        due("15: rows", y.undo(), 0);
        due("15: columns and cuts", 10 * y.count(1) + y.count(2), 11);
        due("15: value", y.value(0, 3), 6);
        y.basis(0, 0, 5);
        due("15: the same basis leaves cuts", y.count(2), 1);
        y.basis(0, 0, -5);
        due("15: another one does not", y.count(2), 0);
        due("15: basis", y.undo(), 1);
        due("15: cuts again", y.count(2), 1);
        cut(y, "zzz");
        due("15: fault", y.fault(), 0);
        due("15: basis, the same", y.undo(), 1);
        due("15: fault stays", y.fault(), 0);
        due("45: status()", y.status(), 0);
    }

    private static void promises16And17() {
        CornerCuts x = cyclic(5, 3);
        x.column(2, 0, 0, 7);
        cut(x, "gmi 1");
        due("16: image(2)", x.image(2), -1);
        due("16: image(-1)", x.image(-1), -1);
        due("17: back(0)", x.back(0), -4);
        due("17: back(2)", x.back(2), -1);
        due("16: image(0)", x.image(0), 1);
        int kept = x.count(4);
        due("16: can be undone as before", kept, 5);
        x.rows(3);
        due("16: image(1)", x.image(1), 3);
        due("17: back(0)", x.back(0), 1);
        due("17: nothing can be undone", x.undo(), -4);
        due("17: columns", x.goal(0), 2);
        due("17: cuts", x.value(0, -1), 6);
        due("17: group", x.count(3), 5);
        x.uncut();
        x.cost(0, 1);
        due("17: back(0) again", x.back(0), 1);
        due("17: not touched by what was done", x.cost(0, 7), 7);
        due("17: nor cuts", x.count(2), 1);
        type(x, "abc");
        due("17: back(1)", x.back(1), 3);
        due("17: no columns", x.count(1), 0);
        due("17: the tape stays", x.count(5), 3);
        due("17: what is refused stays", x.count(6), 3);
        x.column(1, 2, 3, 4);
        due("16: image(1) anew", x.image(1), 3);
        due("15: undo()", x.undo(), 3);
        due("17: an image is not undone", x.back(1), 3);
        due("17: column", x.count(1), 1);
    }

    private static void promises18To21() {
        CornerCuts x = new CornerCuts();
        x.rows(3);
        int[] b = {9, -9, 9, 9, 9, -9, -9, 9, 9};
        for (int i = 0; i < 9; i++) {
            x.basis(i / 3, i % 3, b[i]);
        }
        due("18: determinant()", x.determinant(), 2916);
        due("19: no group", x.hermite(0, 0), -1);
        due("20: no group", x.invariant(0), -1);
        due("21: no group", x.element(0, 0, 0), -1);
        due("44: no group", x.count(3), 0);
        int[] c = {2, 4, 1, 0, 3, 5, 1, 1, -2};
        for (int i = 0; i < 9; i++) {
            x.basis(i / 3, i % 3, c[i]);
        }
        due("18: determinant()", x.determinant(), -5);
        int[] h = {1, 0, 0, 0, 1, 0, 3, 3, 5};
        // the multiples are the rows (a, b, c) with 2 a + 2 b + c a multiple of 5
        for (int i = 0; i < 9; i++) {
            due("19: hermite(" + i / 3 + ", " + i % 3 + ")", x.hermite(i / 3, i % 3), h[i]);
        }
        due("19: hermite(3, 0)", x.hermite(3, 0), -1);
        due("19: hermite(0, 3)", x.hermite(0, 3), -1);
        due("19: hermite(-1, 0)", x.hermite(-1, 0), -1);
        due("19: hermite(0, -1)", x.hermite(0, -1), -1);
        due("21: element(0, 0, 4)", x.element(0, 0, 4), 4);
        due("21: element(9999, -9999, 9999)", x.element(9999, -9999, 9999), 4);
        due("21: element(10000, 0, 0)", x.element(10000, 0, 0), -1);
        due("21: element(0, -10000, 0)", x.element(0, -10000, 0), -1);
        due("21: element(0, 0, 10000)", x.element(0, 0, 10000), -1);
        due("20: invariants", 100 * x.invariant(0) + 10 * x.invariant(1) + x.invariant(2), 115);
        due("20: invariant(3)", x.invariant(3), -1);
        due("20: invariant(-1)", x.invariant(-1), -1);

        CornerCuts y = greatest();
        due("20: invariants", 100 * y.invariant(0) + 10 * y.invariant(1) + y.invariant(2), 226);
        due("21: the last", y.element(1, 1, 5), 23);
        due("21: the first number is foremost", y.element(1, 0, 0), 12);
        y.basis(2, 2, 7);
        due("44: 28 are too many", y.count(3), 0);
        y.rows(2);
        y.basis(0, 0, 4);
        y.basis(1, 1, 6);
        due("20: invariant(0)", y.invariant(0), 2);
        due("20: invariant(1)", y.invariant(1), 12);
        due("20: invariant(2)", y.invariant(2), -1);
        due("21: beyond m", y.element(5, -1, 77777), 11);
        due("44: 24", y.count(3), 24);
        y.basis(1, 0, 9);
        due("19: left of the diagonal", y.hermite(1, 0), 3);
        y.rows(1);
        y.basis(0, 0, -7);
        due("18: determinant()", y.determinant(), -7);
        due("19: above 0", y.hermite(0, 0), 7);
        due("20: invariant(0)", y.invariant(0), 7);
        due("20: invariant(1)", y.invariant(1), -1);
        due("21: element(-1)", y.element(-1, 99999, 99999), 6);
    }

    private static void promises22To25() {
        CornerCuts x = new CornerCuts();
        x.basis(0, 0, 2);
        x.basis(1, 0, 1);
        x.basis(1, 1, 4);
        due("22: least(7, 0)", x.least(7, 0), 1);
        due("22: least(7, 1)", x.least(7, 1), 3);
        due("22: least(8, 0)", x.least(8, 0), -1);
        due("22: least(-1, 0)", x.least(-1, 0), -1);
        due("22: least(0, 2)", x.least(0, 2), -1);
        due("22: least(0, -1)", x.least(0, -1), -1);
        due("23: plus(4, 4)", x.plus(4, 4), 3);
        due("23: plus(7, 7)", x.plus(7, 7), 1);
        due("23: plus(0, 6)", x.plus(0, 6), 6);
        due("23: plus(8, 0)", x.plus(8, 0), -1);
        due("23: plus(0, -1)", x.plus(0, -1), -1);
        int[] orders = {1, 4, 2, 4, 8, 8, 8, 8};
        for (int e = 0; e < 8; e++) {
            due("24: order(" + e + ")", x.order(e), orders[e]);
        }
        due("24: order(8)", x.order(8), -1);
        due("24: order(-1)", x.order(-1), -1);
        x.right(0, 1);
        x.column(-1, 0, 0, 0);
        due("25: goal(-1)", x.goal(-1), 4);
        due("25: goal(0)", x.goal(0), 5);
        due("25: goal(1)", x.goal(1), -1);
        due("25: goal(-2)", x.goal(-2), -1);
        x.basis(0, 0, 0);
        due("22: no group", x.least(0, 0), -1);
        due("23: no group", x.plus(0, 0), -1);
        due("24: no group", x.order(0), -1);
        due("25: no group", x.goal(-1), -1);
        due("25: no group", x.goal(0), -1);
    }

    private static void promises26To29() {
        CornerCuts x = cyclic(6, 4);
        due("26: no columns", x.made(), 1);
        due("27: no walk", x.walk(0), -1);
        due("27: no walk", x.walk(8), -1);
        due("28: no walk", x.basic(0), MIN);
        due("29: element 0", x.far(0, 0), 0);
        due("29: not made", x.far(1, 0), -1);
        x.column(2, 0, 0, 5);
        due("26: a subgroup", x.made(), 3);
        due("27: cost", x.walk(0), 10);
        due("27: steps", x.walk(1), 2);
        due("27: column 0", x.walk(2), 2);
        due("27: no column 1", x.walk(3), -1);
        due("27: point", x.walk(8), 1);
        due("28: basic(0)", x.basic(0), 0);
        due("28: basic(1)", x.basic(1), MIN);
        due("28: basic(-1)", x.basic(-1), MIN);
        x.column(10, 0, 0, 5);
        due("27: less cost", x.walk(0), 5);
        due("27: column 1", x.walk(3), 1);
        due("27: no point", x.walk(8), 0);
        due("28: below 0", x.basic(0), -1);
        x.cost(1, 10);
        due("27: like cost, fewest steps", x.walk(1), 1);
        due("27: walk(4)", x.walk(4), -1);
        due("27: walk(7)", x.walk(7), -1);
        due("27: walk(9)", x.walk(9), -1);
        due("27: walk(-1)", x.walk(-1), -1);
        due("29: far(2, 0)", x.far(2, 0), 5);
        due("29: far(2, 1)", x.far(2, 1), 1);
        due("29: far(1, 0)", x.far(1, 0), -1);
        due("29: far(2, 2)", x.far(2, 2), -1);
        due("29: far(2, -1)", x.far(2, -1), -1);
        due("29: far(6, 0)", x.far(6, 0), -1);
        due("29: far(-1, 0)", x.far(-1, 0), -1);
        x.right(0, 0);
        due("27: nothing is taken", x.walk(1), 0);
        due("27: nothing is taken", x.walk(0), 0);
        due("27: a point", x.walk(8), 1);
        x.right(0, -6);
        due("27: no point", x.walk(8), 0);
        due("28: basic(0)", x.basic(0), -1);

        CornerCuts y = cyclic(7, 4);
        y.column(3, 0, 0, 0);
        y.column(1, 0, 0, 0);
        y.column(2, 0, 0, 0);
        y.column(2, 0, 0, 0);
        y.column(0, 0, 0, 0);
        y.column(9, 0, 0, 0);
        due("27: no cost", y.walk(0), 0);
        due("27: fewest steps", y.walk(1), 2);
        due("27: most of column 0", y.walk(2), 1);
        due("27: then of 1", y.walk(3), 1);
        due("27: not of 2", y.walk(4), 0);
        due("27: nor of 5", y.walk(7), 0);
        y.drop(0);
        due("27: most of column 1", 10 * y.walk(3) + y.walk(4), 20);
        y.basis(0, 0, 0);
        due("26: no group", y.made(), -1);
        due("27: no group", y.walk(0), -1);
        due("28: no group", y.basic(0), MIN);
        due("29: no group", y.far(0, 0), -1);

        CornerCuts z = greatest();
        z.right(2, 5);
        z.column(0, 0, 1, 99);
        due("27: five steps", z.walk(2), 5);
        due("27: cost", z.walk(0), 495);
        z.rows(2);
        z.basis(0, 0, 4);
        z.basis(1, 0, 1);
        z.basis(1, 1, 6);
        z.right(0, -1);
        z.column(1, 0, 0, 99);
        due("27: 23 steps", z.walk(1), 23);
        due("27: 23 times", z.walk(2), 23);
        due("27: 23 times 99", z.walk(0), 2277);
        due("28: basic(0)", z.basic(0), -6);
        due("28: basic(1)", z.basic(1), 1);
    }

    private static void promise30() {
        CornerCuts x = cyclic(6, 4);
        due("30: no columns", x.whole(0), -1);
        x.column(10, 0, 0, 1);
        x.column(2, 0, 0, 9);
        due("30: cost", x.whole(0), 18);
        due("30: steps", x.whole(1), 2);
        due("30: column 0", x.whole(2), 0);
        due("30: column 1", x.whole(3), 2);
        due("30: column 2", x.whole(4), -1);
        due("30: whole(8)", x.whole(8), -1);
        due("30: whole(-1)", x.whole(-1), -1);
        due("30: walk() is another", x.walk(0), 1);
        x.right(0, 60);
        x.cost(1, 0);
        due("30: none is taken", x.whole(1), 0);
        x.right(0, -6);
        due("30: none", x.whole(0), -1);
        x.column(-1, 0, 0, 2);
        due("30: six", x.whole(1), 6);
        due("30: six", x.whole(4), 6);
        x.right(0, -8);
        due("30: eight steps", x.whole(1), 8);
        due("30: eight steps", x.whole(0), 16);
        x.right(0, -9);
        due("30: no more than eight", x.whole(0), -1);
        x.right(0, 4);
        x.column(2, 0, 0, 0);
        due("30: most of column 1", 10 * x.whole(3) + x.whole(5), 20);
        x.basis(0, 0, 0);
        due("30: no group", x.whole(0), -1);
    }

    private static void promises31And32() {
        CornerCuts x = cyclic(5, 3);
        cut(x, "gmi 1");
        due("31: scale", x.value(0, -1), 6);
        due("31: value(0, 4)", x.value(0, 4), 3);
        due("31: value(0, 5)", x.value(0, 5), -1);
        due("31: value(0, -2)", x.value(0, -2), -1);
        due("31: value(1, 0)", x.value(1, 0), -1);
        due("31: value(-1, 0)", x.value(-1, 0), -1);
        due("31: value(-1, -1)", x.value(-1, -1), -1);
        due("32: no column", x.coefficient(0, 0), -1);
        x.column(-1, 0, 0, 0);
        due("32: coefficient(0, 0)", x.coefficient(0, 0), 3);
        due("32: coefficient(0, 1)", x.coefficient(0, 1), -1);
        due("32: coefficient(0, -1)", x.coefficient(0, -1), -1);
        due("32: coefficient(1, 0)", x.coefficient(1, 0), -1);
    }

    private static void asks(CornerCuts x, int cut, int... want) {
        for (int i = 0; i < want.length; i++) {
            due("33: asks(" + cut + ", " + i + ")", x.asks(cut, i), want[i]);
        }
    }

    private static void promise33() {
        CornerCuts x = cyclic(5, 3);
        cut(x, "gmi 1");
        asks(x, 0, 0, -1, 1, 1, 1, 4, 1, 3, -1, 0);
        x.column(1, 0, 0, 4);
        x.column(2, 0, 0, 3);
        asks(x, 0, 0, -1, 1, 1, 1, 4, 1, 3, 6, 2);
        cut(x, "told 0 1 9 9 1");
        asks(x, 1, 2, 101, 0, 0, 0, 1, 0, 0, 3, 0);
        cut(x, "told 1 2 2 4 3");
        asks(x, 2, 0, -1, 0, 0, 1, 2, 0, 1, 4, 1);
        cut(x, "told 0 1 1 1 1");
        asks(x, 3, 0, -1, 1, 0, 1, 1, 0, 0, 2, 0);
        due("33: asks(0, 10)", x.asks(0, 10), -1);
        due("33: asks(0, -1)", x.asks(0, -1), -1);
        due("33: asks(4, 0)", x.asks(4, 0), -1);
        due("33: asks(-1, 0)", x.asks(-1, 0), -1);

        CornerCuts y = cyclic(4, 4);
        cut(y, "told 6 3 0 3");
        // goal is 0, so that x(goal) is 0 anyway; tight are 1 and 2, 1 and 3, 2 and 3
        asks(y, 0, 1, 202, 0, 0, 0, 3, 0, 3, 0, 0);
        y.column(2, 0, 0, 1);
        y.column(0, 0, 0, 1);
        // 0 just once, with 2 no times, twice, four times
        due("33: touched", y.asks(0, 9), 3);
        due("33: least", y.asks(0, 8), 0);

        CornerCuts z = cyclic(6, 3);
        z.column(3, 0, 0, 1);
        z.column(1, 0, 0, 1);
        z.column(5, 0, 0, 1);
        cut(z, "told 0 1 1 1 1 1");
        asks(z, 0, 0, -1, 1, 0, 1, 1, 0, 0, 1, 1);
        cut(z, "told 0 0 0 3 0 0");
        due("33: bad", z.asks(1, 0), 2);
        due("33: least", z.asks(1, 8), 0);
        due("33: does not hold", z.asks(1, 4), 0);
        // 3 just once, with 1 and 5 alike often
        due("33: touched", z.asks(1, 9), 3);
    }

    private static void promises34And35() {
        CornerCuts x = cyclic(5, 3);
        cut(x, "gmi 1");
        due("34: no columns", x.depth(0, -1, 100, 0, 0, 0, 0), 6);
        x.column(1, 0, 0, 0);
        x.column(2, 0, 0, 0);
        due("34: depth", x.depth(0, 1, 1, 0, 0, 0, 0), 0);
        due("34: depth", x.depth(0, 99, 99, -1, -1, 100, 100), 6 - 99 * 6);
        due("34: not asked", x.depth(0, 0, 0, -1, 100, MIN, 7), 6);
        due("34: 100", x.depth(0, 100, 0, 0, 0, 0, 0), MIN);
        due("34: -1", x.depth(0, 0, -1, 0, 0, 0, 0), MIN);
        due("34: no cut", x.depth(1, 0, 0, 0, 0, 0, 0), MIN);
        due("34: no cut", x.depth(-1, 0, 0, 0, 0, 0, 0), MIN);
        for (int k = 3; k <= 6; k++) {
            x.column(4, 0, 0, 0);
        }
        due("34: all columns", x.depth(0, 1, 0, 1, 1, 1, 1), 6 - 2 - 12);
        due("34: the last", x.depth(0, 0, 0, 0, 0, 0, 100), MIN);

        CornerCuts y = cyclic(5, 3);
        cut(y, "told 0 2 4 6 3");
        cut(y, "told 0 4 8 12 6");
        cut(y, "told 0 2 3 6 3");
        cut(y, "told 0 1 9 6 3");
        due("35: no columns", y.isOver(2, 0) ? 1 : 0, 0);
        y.column(1, 0, 0, 0);
        due("35: alike", y.isOver(2, 0) ? 1 : 0, 0);
        due("35: below", y.isOver(3, 0) ? 1 : 0, 1);
        y.column(2, 0, 0, 0);
        due("35: below at one", y.isOver(2, 0) ? 1 : 0, 1);
        due("35: by scale", y.isOver(2, 1) ? 1 : 0, 1);
        due("35: alike by scale", y.isOver(0, 1) ? 1 : 0, 0);
        due("35: alike by scale", y.isOver(1, 0) ? 1 : 0, 0);
        due("35: above", y.isOver(0, 2) ? 1 : 0, 0);
        due("35: neither", y.isOver(3, 0) ? 1 : 0, 0);
        due("35: neither", y.isOver(0, 3) ? 1 : 0, 0);
        due("35: itself", y.isOver(0, 0) ? 1 : 0, 0);
        due("35: no cut", y.isOver(0, 4) ? 1 : 0, 0);
        due("35: no cut", y.isOver(-1, 0) ? 1 : 0, 0);

        CornerCuts z = cyclic(2, 1);
        cut(z, "told 999 999");
        for (int i = 0; i < 7; i++) {
            cut(z, "both " + i + " " + i);
        }
        z.column(0, 0, 0, 99);
        due("31: greatest", z.value(7, -1), 999 * 128);
        due("34: greatest", z.depth(7, 99, 0, 0, 0, 0, 0), 999 * 128 - 99 * 999 * 128);
        due("35: greatest", z.isOver(7, 6) ? 1 : 0, 0);
        due("39: greatest", z.bound(7, 0), 99);
        z.uncut();
        cut(z, "told 998 999");
        due("35: greatest", z.isOver(7, 6) ? 1 : 0, 1);
        due("35: greatest", z.isOver(6, 7) ? 1 : 0, 0);
    }

    private static void promises36And37() {
        CornerCuts x = cyclic(5, 3);
        due("36: table(0)", x.table(0), 2);
        due("36: table(1)", x.table(1), 2);
        due("36: table(2)", x.table(2), -1);
        due("36: table(-1)", x.table(-1), -1);
        int[][] want = {{0, 2, 4, 6, 3}, {0, 3, 1, 4, 2}};
        for (int i = 0; i < 2; i++) {
            for (int e = 0; e < 5; e++) {
                due("37: tabled(" + i + ", " + e + ")", x.tabled(i, e), want[i][e]);
            }
            due("37: facet", x.tabled(i, -1), 1);
            due("37: tabled(" + i + ", 5)", x.tabled(i, 5), -1);
            due("37: tabled(" + i + ", -2)", x.tabled(i, -2), -1);
        }
        due("37: tabled(2, 0)", x.tabled(2, 0), -1);
        due("37: tabled(2, -1)", x.tabled(2, -1), -1);
        due("37: tabled(-1, 0)", x.tabled(-1, 0), -1);
        x.right(0, 4);
        due("37: of another goal", x.tabled(0, 1), 1);
        x.undo();
        due("37: undone", x.tabled(0, 1), 2);
        x.right(0, 0);
        due("36: goal 0", x.table(0), 0);
        due("36: goal 0", x.table(1), 0);
        due("37: goal 0", x.tabled(0, 0), -1);
        x.basis(0, 0, 0);
        due("36: no group", x.table(0), -1);
        due("37: no group", x.tabled(0, 0), -1);

        CornerCuts y = cyclic(6, 3);
        // by 1 (and 5): 0 1 2 3 2 1; by 3, and by 1 to the rests by 2: 0 1 0 1 0 1
        due("36: table(0)", y.table(0), 2);
        due("37: divided", y.tabled(0, 3), 1);
        due("37: zeros first", y.tabled(0, 2), 0);
        due("37: behind", y.tabled(1, 3), 3);

        CornerCuts z = new CornerCuts();
        z.basis(0, 0, 2);
        z.basis(1, 1, 2);
        z.right(0, 1);
        due("36: two of four", z.table(0), 2);
        due("37: tabled(0, 1)", z.tabled(0, 1), 0);
        due("37: tabled(1, 1)", z.tabled(1, 1), 1);
        due("37: tabled(1, 3)", z.tabled(1, 3), 0);
        CornerCuts one = new CornerCuts();
        due("36: one element", one.table(0), 0);
    }

    private static void promises38To40() {
        CornerCuts x = cyclic(6, 3);
        cut(x, "gmi 3");
        cut(x, "told 0 0 1 1 0 0");
        cut(x, "told 1 0 0 1 0 0");
        due("38: zeros(0, 0)", x.zeros(0, 0), 21);
        due("38: zeros(0, 1)", x.zeros(0, 1), 1);
        due("38: zeros(1, 0)", x.zeros(1, 0), 51);
        due("38: no subgroup", x.zeros(1, 1), 0);
        due("38: 0 is not among them", x.zeros(2, 1), 0);
        due("38: zeros(0, 2)", x.zeros(0, 2), -1);
        due("38: zeros(0, -1)", x.zeros(0, -1), -1);
        due("38: zeros(3, 0)", x.zeros(3, 0), -1);
        due("38: zeros(-1, 0)", x.zeros(-1, 0), -1);
        cut(x, "told 1 1 1 1 1 1");
        due("38: none", x.zeros(3, 0), 0);
        due("38: none", x.zeros(3, 1), 0);

        due("39: no columns", x.bound(3, 0), -1);
        due("40: no columns", x.tightest(), -1);
        x.column(2, 0, 0, 5);
        due("39: coefficient 0", x.bound(0, 0), -1);
        due("39: coefficient 0", x.bound(0, 1), -1);
        x.uncut();
        x.uncut();
        x.uncut();
        cut(x, "told 0 4 3 6 2 1");
        due("39: upper", x.bound(1, 0), 10);
        due("39: lower", x.bound(1, 1), 1);
        x.column(1, 0, 0, 6);
        due("39: the least", x.bound(1, 0), 9);
        due("39: of column 1", x.bound(0, 0), 6);
        x.column(5, 0, 0, 0);
        due("39: cost 0", x.bound(1, 0), 0);
        due("39: cost 0", x.bound(1, 1), 1);
        due("39: bound(1, 2)", x.bound(1, 2), -1);
        due("39: bound(1, -1)", x.bound(1, -1), -1);
        due("39: bound(2, 0)", x.bound(2, 0), -1);
        due("39: bound(-1, 0)", x.bound(-1, 0), -1);

        CornerCuts y = cyclic(5, 3);
        y.column(1, 0, 0, 4);
        y.column(2, 0, 0, 3);
        due("40: no cuts", y.tightest(), -1);
        cut(y, "told 0 1 1 9 9");
        due("40: it does not hold", y.tightest(), -1);
        cut(y, "told 0 9 9 1 9");
        due("40: holds", y.tightest(), 1);
        cut(y, "gmi 1");
        due("40: the greatest", y.tightest(), 2);
        cut(y, "both 2 2");
        due("40: the first", y.tightest(), 2);
        y.cost(1, 0);
        due("40: all 0, the first that holds", y.tightest(), 1);
    }

    private static void promises41To43() {
        CornerCuts x = cyclic(5, 3);
        int[] shots = {0, 0, 1, 0, 0};
        for (int e = 0; e < 5; e++) {
            due("41: shot(" + e + ")", x.shot(e), shots[e]);
        }
        due("41: shot(5)", x.shot(5), -1);
        due("41: shot(-1)", x.shot(-1), -1);
        due("42: no columns", x.deepest(-1, 100, 0, 0, 0, 0), 0);
        x.column(2, 0, 0, 0);
        due("42: deepest", x.deepest(0, 0, 0, 0, 0, 0), 0);
        due("42: deepest", x.deepest(99, -1, -1, 100, 0, 0), 1);
        due("42: 100", x.deepest(100, 0, 0, 0, 0, 0), -1);
        due("42: -1", x.deepest(-1, 0, 0, 0, 0, 0), -1);
        x.column(1, 0, 0, 0);
        due("42: alike, the first", x.deepest(2, 2, 0, 0, 0, 0), 0);
        due("42: both", x.deepest(2, 1, 0, 0, 0, 0), 1);
        due("42: both", x.deepest(0, 3, 0, 0, 0, 0), 0);

        due("43: no cut", x.middle(0), -1);
        cut(x, "told 0 13 11 24 12");
        due("43: middle", x.middle(0), 1);
        cut(x, "both 0 0");
        due("43: by scale", x.middle(1), 1);
        cut(x, "gmi 1");
        due("43: none", x.middle(2), -1);
        cut(x, "told 0 13 11 24 13");
        due("43: none", x.middle(3), -1);
        due("43: middle(4)", x.middle(4), -1);
        due("43: middle(-1)", x.middle(-1), -1);

        CornerCuts y = cyclic(7, 3);
        // the table: 0 3 6 2 5 1 4 by 1/6 and more; half way between the second and the third
        int a = y.tabled(1, 3);
        int b = y.tabled(2, 3);
        StringBuilder t = new StringBuilder("told");
        for (int e = 0; e < 7; e++) {
            t.append(' ').append(y.tabled(1, e) * b + y.tabled(2, e) * a);
        }
        due("43: three functions", y.table(0), 3);
        due("43: cut()", cut(y, t.toString()), 0);
        due("43: middle", y.middle(0), 102);

        y.right(0, 0);
        due("41: an empty table", y.shot(0), -1);
        due("42: an empty table", y.deepest(0, 0, 0, 0, 0, 0), -1);
        cut(y, "told 1 1 1 1 1 1 1");
        due("43: an empty table", y.middle(0), -1);
        y.basis(0, 0, 0);
        due("41: no group", y.shot(0), -1);
        due("42: no group", y.deepest(0, 0, 0, 0, 0, 0), -1);
    }

    private static void promises44And45() {
        CornerCuts x = new CornerCuts();
        due("45: ahead of any", x.status(), 0);
        x.rows(0);
        due("45: rows", x.status(), -1);
        x.feed(0, 0, 0, 0, 0);
        x.end(99);
        x.walk(99);
        x.fault();
        due("45: others do not count", x.status(), -1);
        x.drop(0);
        due("45: drop", x.status(), -2);
        x.cost(0, 0);
        x.uncut();
        due("45: uncut", x.status(), -4);
        x.image(5);
        due("45: image", x.status(), -1);
        x.image(0);
        due("45: image", x.status(), 0);
        x.back(1);
        due("45: back", x.status(), -4);
        x.back(0);
        due("45: back", x.status(), 0);
        x.undo();
        due("45: undo", x.status(), -4);
        x.listing(0);
        due("45: listing", x.status(), -2);
        x.cut();
        due("45: cut", x.status(), -6);
        for (int k = 0; k < 7; k++) {
            x.column(0, 0, 0, 0);
        }
        due("45: column", x.status(), -5);
        x.column(0, 0, 0, 0);
        int[] want = {2, 6, 0, 1, 6, 0, 2, 3, 3, 2, 1, 0, 0, -1, 1, 0, -1, 0, 1, -1, -1, -1, -1, -1, -1};
        for (int i = 0; i < want.length; i++) {
            due("44: count(" + i + ")", x.count(i), want[i]);
        }
        due("44: count(-1)", x.count(-1), -1);
        due("44: count(MIN)", x.count(MIN), -1);
        due("44: count(MAX)", x.count(Integer.MAX_VALUE), -1);
        x.rows(3);
        x.right(2, -7);
        x.basis(2, 1, -3);
        due("44: count(13)", x.count(13), -7);
        due("44: count(21)", x.count(21), -3);
        due("44: count(22)", x.count(22), 1);
        due("44: count(23)", x.count(23), -1);
    }
}
