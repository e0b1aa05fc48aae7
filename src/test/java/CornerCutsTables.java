import java.util.ArrayList;
import java.util.Arrays;
import java.util.LinkedHashSet;
import java.util.List;
import java.util.Set;

/**
 * Promises 36 and 37 where the TABLE is fullest: "all FUNCTIONS by gmi of all multipliers 0 .. D-1",
 * each of them tried, in groups of 24 and of 16 elements of each shape, for each goal.
 */
public final class CornerCutsTables {
    /** Bases of three rows with zeros above the diagonal: the diagonal, then what is below it. */
    private static final int[][] BASES = {
        {1, 3, 8, 0, 0, 0}, {3, 8, 1, 2, 1, 0}, {8, 1, 3, 0, 2, 0}, {1, 4, 6, 0, 0, 0}, {4, 6, 1, 3, 0, 0},
        {6, 4, 1, 1, 0, 0}, {2, 2, 6, 0, 0, 0}, {6, 2, 2, 1, 1, 1}, {2, 6, 2, 1, 0, 1}, {4, 1, 6, 0, 5, 0},
        {3, 8, 1, 1, 0, 1}, {3, 8, 1, 2, 3, 3}, {4, 6, 1, 2, 3, 1}, {6, 2, 2, 1, 2, 2}, {6, 4, 1, 2, 1, 1},
        {2, 2, 4, 0, 0, 0}, {4, 4, 1, 0, 0, 0}, {2, 8, 1, 0, 0, 0}, {8, 2, 1, 1, 0, 0}, {4, 2, 2, 1, 1, 0}};
    private static int wrong = 0;

    public static void main(String[] args) {
        for (int[] basis : BASES) {
            int d = basis[0] * basis[1] * basis[2];
            CornerCuts first = made(basis, 0, 0, 0);
            int[][] rows = leastRows(first, d);
            Set<List<Integer>> parts = allParts(basis, rows, d);
            if (parts.size() != d) {
                fail(Arrays.toString(basis) + " has " + parts.size() + " lists of parts, not " + d);
            }
            for (int goal = 0; goal < d; goal++) {
                CornerCuts x = made(basis, rows[goal][0], rows[goal][1], rows[goal][2]);
                compare(Arrays.toString(basis) + " goal " + goal, x, tableOf(parts, goal, d), d);
            }
        }
        System.out.println(wrong == 0 ? "all tables are as due" : wrong + " tables are not as due");
        if (wrong != 0) {
            System.exit(1);
        }
    }

    private static void fail(String why) {
        wrong++;
        System.out.println(why);
    }

    private static CornerCuts made(int[] basis, int a, int b, int c) {
        CornerCuts x = new CornerCuts();
        x.rows(3);
        for (int i = 0; i < 3; i++) {
            x.basis(i, i, basis[i]);
        }
        x.basis(1, 0, basis[3]);
        x.basis(2, 0, basis[4]);
        x.basis(2, 1, basis[5]);
        x.right(0, a);
        x.right(1, b);
        x.right(2, c);
        return x;
    }

    private static int[][] leastRows(CornerCuts x, int d) {
        int[][] rows = new int[d][3];
        for (int e = 0; e < d; e++) {
            for (int i = 0; i < 3; i++) {
                rows[e][i] = x.least(e, i);
            }
        }
        return rows;
    }

    /** The lists of PARTS of all elements, by all multipliers 0 .. D-1. */
    private static Set<List<Integer>> allParts(int[] basis, int[][] rows, int d) {
        int[][] solved = new int[d][3];
        for (int e = 0; e < d; e++) {
            // D times y, whole numbers, from the first row down
            solved[e][0] = d * rows[e][0] / basis[0];
            solved[e][1] = (d * rows[e][1] - basis[3] * solved[e][0]) / basis[1];
            solved[e][2] = (d * rows[e][2] - basis[4] * solved[e][0] - basis[5] * solved[e][1]) / basis[2];
        }
        Set<List<Integer>> all = new LinkedHashSet<>();
        for (int u = 0; u < d * d * d; u++) {
            List<Integer> parts = new ArrayList<>();
            for (int[] y : solved) {
                parts.add(Math.floorMod(u % d * y[0] + u / d % d * y[1] + u / d / d * y[2], d));
            }
            all.add(parts);
        }
        return all;
    }

    private static List<int[]> tableOf(Set<List<Integer>> allParts, int goal, int d) {
        List<int[]> table = new ArrayList<>();
        for (List<Integer> parts : allParts) {
            int pivot = parts.get(goal);
            if (pivot == 0) {
                continue;
            }
            int[] values = new int[d];
            int common = 0;
            for (int e = 0; e < d; e++) {
                int part = parts.get(e);
                values[e] = part <= pivot ? part * (d - pivot) : (d - part) * pivot;
                common = divisor(common, values[e]);
            }
            for (int e = 0; e < d; e++) {
                values[e] /= common;
            }
            boolean isNew = true;
            for (int[] other : table) {
                isNew = isNew && !Arrays.equals(other, values);
            }
            if (isNew) {
                table.add(values);
            }
        }
        table.sort(Arrays::compare);
        return table;
    }

    private static int divisor(int a, int b) {
        return b == 0 ? a : divisor(b, a % b);
    }

    private static void compare(String where, CornerCuts x, List<int[]> due, int d) {
        if (x.table(0) != due.size()) {
            fail("promise 36: " + where + ": table(0) answered " + x.table(0) + ", due is " + due.size());
            return;
        }
        for (int i = 0; i < due.size(); i++) {
            int[] got = new int[d];
            for (int e = 0; e < d; e++) {
                got[e] = x.tabled(i, e);
            }
            if (!Arrays.equals(got, due.get(i))) {
                fail("promise 37: " + where + ": function " + i + " is " + Arrays.toString(got) + ", due is "
                    + Arrays.toString(due.get(i)));
            }
        }
    }
}
