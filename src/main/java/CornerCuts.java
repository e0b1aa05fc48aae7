import java.util.Arrays;

/**
 * Cuts for whole programs from groups. The words of the document (GROUP, ELEMENT, WALK, CUT ..)
 * are used here as it means them.
 *
 * The basis, the right side and the columns are always held as if there were three rows: a basis
 * of fewer rows is filled up by ones on the diagonal, all else by zeros. The group, its elements
 * and the walks are the same by that, so only the limits of arguments ask how many rows there are.
 */
public final class CornerCuts {
    public static final int NONE = -1;

    private static final int MOST_ROWS = 3;
    private static final int MOST_COLUMNS = 6;
    private static final int MOST_CUTS = 8;
    private static final int MOST_ELEMENTS = 24;
    private static final int MOST_BYTES = 400;
    private static final int MOST_IMAGES = 2;
    private static final int MOST_UNDONE = 10;

    private static final int GREATEST_BASIS = 9;
    private static final int GREATEST_NUMBER = 99;
    private static final int GREATEST_ASKED = 9999;
    private static final int GREATEST_MULTIPLIER = 9;
    private static final int GREATEST_TOLD = 999;

    private static final int BAD_NUMBER = -1;
    private static final int NO_SUCH = -2;
    private static final int CANNOT_BE = -4;
    private static final int NO_ROOM = -5;
    private static final int UNREADABLE = -6;

    private static final int ROWS_ACT = 0;
    private static final int BASIS_ACT = 1;
    private static final int RIGHT_ACT = 2;
    private static final int COLUMN_ACT = 3;
    private static final int COST_ACT = 4;
    private static final int DROP_ACT = 5;
    private static final int CUT_ACT = 6;
    private static final int UNCUT_ACT = 7;

    private static final int GMI = 0;
    private static final int FRAC = 1;
    private static final int STEP = 2;
    private static final int BOTH = 3;
    private static final int HULL = 4;
    private static final int TOLD = 5;
    private static final int KINDS = 6;

    private static final int WHOLE_STEPS = 8;
    private static final int TOUCHED_STEPS = 6;
    /** Above the 3,003 ways to take six columns eight times at most. */
    private static final int MOST_WAYS = 4000;
    private static final long NO_WAY = Long.MAX_VALUE;

    private final Model now = new Model();
    private final Model[] images = new Model[MOST_IMAGES];
    private final History history = new History();
    private final Tape text = new Tape();
    private final Group group = new Group();
    private final Walks walks = new Walks();
    private final Spread spread = new Spread();
    private final Judge judge = new Judge();
    private final Table characters = new Table();
    private final int[] ints = new int[MOST_ELEMENTS];
    private final int[] taken = new int[MOST_COLUMNS];
    /** How many calls were refused, by the reason without its sign. */
    private final int[] refusals = new int[7];
    private int latestRefusal = 0;
    private int latestFault = NONE;
    private boolean groupIsFresh = false;
    private boolean walksAreFresh = false;
    private boolean tableIsFresh = false;

    public CornerCuts() {
        for (int k = 0; k < MOST_IMAGES; k++) {
            images[k] = new Model();
        }
        now.restart(2);
    }

    // ------------------------------------------------------------------ what stands

    public int rows(int m) {
        if (!isWithin(m, 1, MOST_ROWS)) {
            return refuse(BAD_NUMBER);
        }
        history.keep(now, ROWS_ACT);
        now.restart(m);
        forgetGroup();
        return accept(m);
    }

    public int basis(int row, int column, int v) {
        if (!isRow(row) || !isRow(column) || !isWithin(v, -GREATEST_BASIS, GREATEST_BASIS)) {
            return refuse(BAD_NUMBER);
        }
        history.keep(now, BASIS_ACT);
        int place = row * MOST_ROWS + column;
        int was = now.basis[place];
        if (was != v) {
            now.basis[place] = v;
            now.loseCuts();
            forgetGroup();
        }
        return accept(was);
    }

    public int right(int row, int v) {
        if (!isRow(row) || !isWithin(v, -GREATEST_NUMBER, GREATEST_NUMBER)) {
            return refuse(BAD_NUMBER);
        }
        history.keep(now, RIGHT_ACT);
        int was = now.right[row];
        if (was != v) {
            now.right[row] = v;
            now.loseCuts();
            forgetGroup();
        }
        return accept(was);
    }

    public int column(int a, int b, int c, int cost) {
        if (!areNumbers(a, b, c, GREATEST_NUMBER) || !isWithin(cost, 0, GREATEST_NUMBER)) {
            return refuse(BAD_NUMBER);
        }
        if (now.columns >= MOST_COLUMNS) {
            return refuse(NO_ROOM);
        }
        history.keep(now, COLUMN_ACT);
        now.addColumn(a, b, c, cost);
        walksAreFresh = false;
        return accept(now.columns - 1);
    }

    public int cost(int column, int v) {
        if (!isWithin(v, 0, GREATEST_NUMBER)) {
            return refuse(BAD_NUMBER);
        }
        if (!isColumn(column)) {
            return refuse(NO_SUCH);
        }
        history.keep(now, COST_ACT);
        int was = now.costs[column];
        now.costs[column] = v;
        walksAreFresh = false;
        return accept(was);
    }

    public int drop(int column) {
        if (!isColumn(column)) {
            return refuse(NO_SUCH);
        }
        history.keep(now, DROP_ACT);
        now.removeColumn(column);
        walksAreFresh = false;
        return accept(now.columns);
    }

    // ------------------------------------------------------------------ texts

    public int feed(int a, int b, int c, int d, int e) {
        if (text.length + 20 > MOST_BYTES) {
            return NONE;
        }
        text.putFour(a);
        text.putFour(b);
        text.putFour(c);
        text.putFour(d);
        text.putFour(e);
        return text.length;
    }

    public int end(int n) {
        if (!isWithin(n, 0, text.length)) {
            return NONE;
        }
        text.length = n;
        return n;
    }

    public int cut() {
        Group g = freshGroup();
        if (g.size == 0) {
            text.length = 0;
            return refuse(CANNOT_BE);
        }
        if (now.cuts >= MOST_CUTS) {
            return refuse(NO_ROOM);
        }
        int kind = readText(g);
        latestFault = text.wrong;
        text.length = 0;
        if (latestFault != NONE) {
            return refuse(UNREADABLE);
        }
        Cut made = new Cut(kind, ints, intsOf(kind, g));
        fill(made.values, kind, g);
        if (made.values.scale == 0) {
            return refuse(CANNOT_BE);
        }
        history.keep(now, CUT_ACT);
        now.made[now.cuts] = made;
        now.cuts++;
        return accept(now.cuts - 1);
    }

    public int fault() {
        return latestFault;
    }

    public int listing(int cut) {
        Cut listed = findCut(cut);
        if (listed == null) {
            return refuse(NO_SUCH);
        }
        text.length = 0;
        text.putWord(wordOf(listed.kind));
        for (int i = 0; i < listed.ints.length; i++) {
            text.put(' ');
            text.putInt(listed.ints[i]);
        }
        return accept(text.length);
    }

    public int tape(int i) {
        return isWithin(i, 0, text.length - 1) ? text.byteAt(i) : NONE;
    }

    public int uncut() {
        if (now.cuts <= 0) {
            return refuse(CANNOT_BE);
        }
        history.keep(now, UNCUT_ACT);
        now.cuts--;
        now.made[now.cuts] = null;
        return accept(now.cuts);
    }

    // ------------------------------------------------------------------ acts taken back, images

    public int undo() {
        if (history.kept == 0) {
            return refuse(CANNOT_BE);
        }
        int act = history.giveBack(now);
        forgetGroup();
        return accept(act);
    }

    public int image(int k) {
        Model kept = findImage(k);
        if (kept == null) {
            return refuse(BAD_NUMBER);
        }
        kept.copyFrom(now);
        return accept(now.rows);
    }

    public int back(int k) {
        Model kept = findImage(k);
        if (kept == null) {
            return refuse(BAD_NUMBER);
        }
        if (kept.rows == 0) {
            return refuse(CANNOT_BE);
        }
        now.copyFrom(kept);
        history.kept = 0;
        forgetGroup();
        return accept(now.rows);
    }

    // ------------------------------------------------------------------ the group

    public int determinant() {
        return freshGroup().determinant;
    }

    public int hermite(int row, int column) {
        Group g = freshGroup();
        if (g.size == 0 || !isRow(row) || !isRow(column)) {
            return NONE;
        }
        return g.hermite[row * MOST_ROWS + column];
    }

    public int invariant(int i) {
        Group g = freshGroup();
        if (g.size == 0 || !isRow(i)) {
            return NONE;
        }
        return g.invariants[i + MOST_ROWS - now.rows];
    }

    public int element(int a, int b, int c) {
        Group g = freshGroup();
        if (g.size == 0 || !areNumbers(a, b, c, GREATEST_ASKED)) {
            return NONE;
        }
        return g.elementOf(a, now.rows > 1 ? b : 0, now.rows > 2 ? c : 0);
    }

    public int least(int element, int i) {
        Group g = freshGroup();
        if (!g.has(element) || !isRow(i)) {
            return NONE;
        }
        return g.leastRows[element * MOST_ROWS + i];
    }

    public int plus(int a, int b) {
        Group g = freshGroup();
        return g.has(a) && g.has(b) ? g.sumOf(a, b) : NONE;
    }

    public int order(int element) {
        Group g = freshGroup();
        if (!g.has(element)) {
            return NONE;
        }
        int times = 1;
        for (int sum = element; sum != 0 && times < g.size; times++) {
            sum = g.sumOf(sum, element);
        }
        return times;
    }

    public int goal(int column) {
        Group g = freshGroup();
        if (g.size == 0) {
            return NONE;
        }
        if (column == NONE) {
            return g.goal;
        }
        return isColumn(column) ? freshWalks().columns.elements[column] : NONE;
    }

    // ------------------------------------------------------------------ walks

    public int made() {
        Group g = freshGroup();
        if (g.size == 0) {
            return NONE;
        }
        Walks w = freshWalks();
        int reached = 0;
        for (int e = 0; e < g.size; e++) {
            if (w.columns.far[e] != NO_WAY) {
                reached++;
            }
        }
        return reached;
    }

    public int walk(int what) {
        Group g = freshGroup();
        if (g.size == 0) {
            return NONE;
        }
        Walks w = freshWalks();
        long shortest = w.columns.far[g.goal];
        if (shortest == NO_WAY) {
            return NONE;
        }
        if (what == 8) {
            return w.isPoint ? 1 : 0;
        }
        return toldOf(shortest, what);
    }

    public int basic(int i) {
        Group g = freshGroup();
        if (g.size == 0 || !isRow(i)) {
            return Integer.MIN_VALUE;
        }
        Walks w = freshWalks();
        return w.columns.far[g.goal] == NO_WAY ? Integer.MIN_VALUE : w.basics[i];
    }

    public int far(int element, int what) {
        Group g = freshGroup();
        if (!g.has(element) || !isWithin(what, 0, 1)) {
            return NONE;
        }
        long weight = freshWalks().columns.far[element];
        return weight == NO_WAY ? NONE : toldOf(weight, what);
    }

    public int whole(int what) {
        Group g = freshGroup();
        if (g.size == 0) {
            return NONE;
        }
        long weight = freshWalks().wholeOf(now, g);
        return weight == NO_WAY ? NONE : toldOf(weight, what);
    }

    // ------------------------------------------------------------------ cuts

    public int value(int cut, int element) {
        Cut c = findCut(cut);
        if (c == null) {
            return NONE;
        }
        if (element == NONE) {
            return c.values.scale;
        }
        return freshGroup().has(element) ? c.values.at[element] : NONE;
    }

    public int coefficient(int cut, int column) {
        Cut c = findCut(cut);
        if (c == null || !isColumn(column)) {
            return NONE;
        }
        return freshWalks().coefficientOf(c.values, column);
    }

    public int asks(int cut, int what) {
        Cut c = findCut(cut);
        if (c == null || !isWithin(what, 0, 9)) {
            return NONE;
        }
        Group g = freshGroup();
        Walks w = freshWalks();
        Values v = c.values;
        judge.judge(v, g);
        switch (what) {
            case 0:
                return v.bad;
            case 1:
                return v.firstBad;
            case 2:
                return v.isSubadditive() ? 1 : 0;
            case 3:
                return v.isSymmetric ? 1 : 0;
            case 4:
                return holds(v, w, g) ? 1 : 0;
            case 5:
                return v.rank;
            case 6:
                return v.isFacet(g) ? 1 : 0;
            case 7:
                return v.tight;
            case 8:
                long sum = leastOf(v, w, g);
                return sum == NO_WAY ? NONE : (int) sum;
            default:
                return w.touchedOf(v, g);
        }
    }

    public int depth(int cut, int a, int b, int c, int d, int e, int f) {
        Cut asked = findCut(cut);
        if (asked == null || !take(a, b, c, d, e, f)) {
            return Integer.MIN_VALUE;
        }
        return asked.values.scale - freshWalks().valueOf(asked.values, taken);
    }

    public boolean isOver(int cut, int other) {
        Cut one = findCut(cut);
        Cut two = findCut(other);
        if (one == null || two == null) {
            return false;
        }
        Walks w = freshWalks();
        boolean isBelow = false;
        for (int k = 0; k < now.columns; k++) {
            long mine = (long) w.coefficientOf(one.values, k) * two.values.scale;
            long theirs = (long) w.coefficientOf(two.values, k) * one.values.scale;
            if (mine > theirs) {
                return false;
            }
            isBelow = isBelow || mine < theirs;
        }
        return isBelow;
    }

    public int zeros(int cut, int what) {
        Cut c = findCut(cut);
        if (c == null || !isWithin(what, 0, 1)) {
            return NONE;
        }
        Group g = freshGroup();
        if (what == 0) {
            return c.values.zeroBits(g);
        }
        return c.values.hasSubgroupOfZeros(g) ? 1 : 0;
    }

    public int bound(int cut, int what) {
        Cut c = findCut(cut);
        if (c == null || !isWithin(what, 0, 1)) {
            return NONE;
        }
        Walks w = freshWalks();
        int k = boundingColumn(c.values, w);
        if (k == NONE) {
            return NONE;
        }
        int upper = now.costs[k] * c.values.scale;
        int lower = w.coefficientOf(c.values, k);
        int common = greatestDivisor(upper, lower);
        return (what == 0 ? upper : lower) / Math.max(1, common);
    }

    public int tightest() {
        Group g = freshGroup();
        Walks w = freshWalks();
        int best = NONE;
        long bestUpper = 0;
        long bestLower = 1;
        for (int i = 0; i < now.cuts; i++) {
            Cut c = findCut(i);
            int k = c == null ? NONE : boundingColumn(c.values, w);
            if (k == NONE || !holds(c.values, w, g)) {
                continue;
            }
            long upper = (long) now.costs[k] * c.values.scale;
            long lower = w.coefficientOf(c.values, k);
            if (best == NONE || upper * bestLower > bestUpper * lower) {
                best = i;
                bestUpper = upper;
                bestLower = lower;
            }
        }
        return best;
    }

    // ------------------------------------------------------------------ the table

    public int table(int what) {
        Group g = freshGroup();
        if (g.size == 0 || !isWithin(what, 0, 1)) {
            return NONE;
        }
        Table t = freshTable();
        if (what == 0) {
            return t.size;
        }
        int facets = 0;
        for (int i = 0; i < t.size; i++) {
            facets += facetOf(t.functions[i]);
        }
        return facets;
    }

    public int tabled(int i, int element) {
        Group g = freshGroup();
        if (g.size == 0 || !isWithin(i, 0, freshTable().size - 1)) {
            return NONE;
        }
        Values v = freshTable().functions[i];
        if (element == NONE) {
            return facetOf(v);
        }
        return g.has(element) ? v.at[element] : NONE;
    }

    public int shot(int element) {
        Group g = freshGroup();
        if (!g.has(element)) {
            return NONE;
        }
        Table t = freshTable();
        int best = NONE;
        for (int i = 0; i < t.size; i++) {
            Values v = t.functions[i];
            Values b = t.functions[Math.max(best, 0)];
            if (best == NONE || v.at[element] * b.scale < b.at[element] * v.scale) {
                best = i;
            }
        }
        return best;
    }

    public int deepest(int a, int b, int c, int d, int e, int f) {
        Group g = freshGroup();
        if (g.size == 0 || !take(a, b, c, d, e, f)) {
            return NONE;
        }
        Walks w = freshWalks();
        Table t = freshTable();
        int best = NONE;
        long bestSum = 0;
        long bestScale = 1;
        for (int i = 0; i < t.size; i++) {
            long sum = w.valueOf(t.functions[i], taken);
            long scale = t.functions[i].scale;
            // (scale - sum) / scale is greatest where sum / scale is least
            if (best == NONE || sum * bestScale < bestSum * scale) {
                best = i;
                bestSum = sum;
                bestScale = scale;
            }
        }
        return best;
    }

    public int middle(int cut) {
        Cut c = findCut(cut);
        if (c == null) {
            return NONE;
        }
        Table t = freshTable();
        for (int i = 0; i < t.size; i++) {
            for (int j = i + 1; j < t.size; j++) {
                if (isMiddle(c.values, t.functions[i], t.functions[j])) {
                    return 100 * i + j;
                }
            }
        }
        return NONE;
    }

    // ------------------------------------------------------------------ what is told

    public int count(int what) {
        switch (what) {
            case 0:
                return now.rows;
            case 1:
                return now.columns;
            case 2:
                return now.cuts;
            case 3:
                return freshGroup().size;
            case 4:
                return history.kept;
            case 5:
                return text.length;
            case 6:
                return refusals[-BAD_NUMBER];
            case 7:
                return refusals[-NO_SUCH];
            case 8:
                return refusals[-CANNOT_BE];
            case 9:
                return refusals[-NO_ROOM];
            case 10:
                return refusals[-UNREADABLE];
            default:
                return numberOf(what);
        }
    }

    public int status() {
        return latestRefusal;
    }

    // ------------------------------------------------------------------ refusals and limits

    private int refuse(int reason) {
        latestRefusal = reason;
        refusals[-reason]++;
        return reason;
    }

    private int accept(int answer) {
        latestRefusal = 0;
        return answer;
    }

    private static boolean isWithin(int v, int low, int high) {
        return v >= low && v <= high;
    }

    private boolean isRow(int i) {
        return isWithin(i, 0, now.rows - 1);
    }

    private boolean isColumn(int k) {
        return isWithin(k, 0, now.columns - 1);
    }

    /** Whether the numbers of a row are in their limits; those beyond the rows are not asked. */
    private boolean areNumbers(int a, int b, int c, int greatest) {
        return isWithin(a, -greatest, greatest)
            && (now.rows < 2 || isWithin(b, -greatest, greatest))
            && (now.rows < 3 || isWithin(c, -greatest, greatest));
    }

    private int numberOf(int what) {
        if (isWithin(what, 11, 13)) {
            return isRow(what - 11) ? now.right[what - 11] : NONE;
        }
        if (!isWithin(what, 14, 22)) {
            return NONE;
        }
        int place = what - 14;
        return isRow(place / MOST_ROWS) && isRow(place % MOST_ROWS) ? now.basis[place] : NONE;
    }

    private Cut findCut(int cut) {
        return isWithin(cut, 0, now.cuts - 1) ? now.made[cut] : null;
    }

    private Model findImage(int k) {
        return isWithin(k, 0, MOST_IMAGES - 1) ? images[k] : null;
    }

    // ------------------------------------------------------------------ what is reckoned once

    private void forgetGroup() {
        groupIsFresh = false;
        walksAreFresh = false;
        tableIsFresh = false;
    }

    private Group freshGroup() {
        if (!groupIsFresh) {
            group.build(now);
            groupIsFresh = true;
        }
        return group;
    }

    /** To be asked only if there is a group, or no use is made of what it gives. */
    private Walks freshWalks() {
        if (!walksAreFresh) {
            walks.build(now, freshGroup());
            walksAreFresh = true;
        }
        return walks;
    }

    private Table freshTable() {
        if (!tableIsFresh) {
            characters.build(freshGroup());
            tableIsFresh = true;
        }
        return characters;
    }

    // ------------------------------------------------------------------ the parts of cut()

    /** Reads the tape into ints: the kind of the text; text.wrong tells the fault. */
    private int readText(Group g) {
        text.startReading();
        int kind = text.readKind();
        int many = intsOf(kind, g);
        for (int i = 0; i < many && text.wrong == NONE; i++) {
            ints[i] = text.readInt(lowest(kind, i), greatest(kind, i));
        }
        text.readNothing();
        return kind;
    }

    private int intsOf(int kind, Group g) {
        switch (kind) {
            case GMI:
            case FRAC:
                return now.rows;
            case STEP:
                return now.rows + 1;
            case BOTH:
                return 2;
            case HULL:
                return 1;
            case TOLD:
                return g.size;
            default:
                return 0;
        }
    }

    private static int lowest(int kind, int i) {
        if (kind == STEP && i == 0) {
            return 1;
        }
        return kind == BOTH || kind == HULL || kind == TOLD ? 0 : -GREATEST_MULTIPLIER;
    }

    private int greatest(int kind, int i) {
        if (kind == STEP && i == 0) {
            return MOST_ELEMENTS - 1;
        }
        if (kind == BOTH || kind == HULL) {
            return now.cuts - 1;
        }
        return kind == TOLD ? GREATEST_TOLD : GREATEST_MULTIPLIER;
    }

    private static String wordOf(int kind) {
        switch (kind) {
            case GMI:
                return "gmi";
            case FRAC:
                return "frac";
            case STEP:
                return "step";
            case BOTH:
                return "both";
            case HULL:
                return "hull";
            default:
                return "told";
        }
    }

    /** The values of a function by a text that was read into ints. */
    private void fill(Values v, int kind, Group g) {
        switch (kind) {
            case BOTH:
                fillBoth(v, findCut(ints[0]), findCut(ints[1]), g);
                break;
            case HULL:
                fillHull(v, findCut(ints[0]), g);
                break;
            case TOLD:
                System.arraycopy(ints, 0, v.at, 0, g.size);
                break;
            default:
                fillParts(v, kind, g);
        }
        v.scale = v.at[g.goal];
    }

    private void fillParts(Values v, int kind, Group g) {
        int first = kind == STEP ? 1 : 0;
        int times = kind == STEP ? ints[0] : 1;
        int second = now.rows > 1 ? ints[first + 1] : 0;
        int third = now.rows > 2 ? ints[first + 2] : 0;
        int x = times * g.weightOf(ints[first], second, third, 0);
        int y = times * g.weightOf(ints[first], second, third, 1);
        int z = times * g.weightOf(ints[first], second, third, 2);
        if (kind == FRAC) {
            v.fillByFraction(x, y, z, g);
        } else {
            v.fillByCharacter(x, y, z, g);
        }
    }

    private static void fillBoth(Values v, Cut one, Cut two, Group g) {
        if (one == null || two == null) {
            return;
        }
        for (int e = 0; e < g.size; e++) {
            v.at[e] = one.values.at[e] + two.values.at[e];
        }
    }

    private void fillHull(Values v, Cut of, Group g) {
        if (of == null) {
            return;
        }
        spread.steps = 0;
        for (int e = 0; e < g.size; e++) {
            spread.add(e, of.values.at[e]);
        }
        spread.run(g);
        for (int e = 0; e < g.size; e++) {
            v.at[e] = (int) spread.far[e];
        }
    }

    // ------------------------------------------------------------------ the parts of questions

    /** Notes how often columns are taken: false, if one that there is can't be taken so often. */
    private boolean take(int a, int b, int c, int d, int e, int f) {
        taken[0] = a;
        taken[1] = b;
        taken[2] = c;
        taken[3] = d;
        taken[4] = e;
        taken[5] = f;
        for (int k = 0; k < now.columns; k++) {
            if (!isWithin(taken[k], 0, GREATEST_NUMBER)) {
                return false;
            }
        }
        return true;
    }

    /** The least sum of values that walks have, or NO_WAY. */
    private long leastOf(Values v, Walks w, Group g) {
        spread.steps = 0;
        for (int k = 0; k < now.columns; k++) {
            spread.add(w.columns.elements[k], w.coefficientOf(v, k));
        }
        spread.run(g);
        return spread.far[g.goal];
    }

    private boolean holds(Values v, Walks w, Group g) {
        return leastOf(v, w, g) >= v.scale;
    }

    /** The first column that gives the bound of a cut. */
    private int boundingColumn(Values v, Walks w) {
        int best = NONE;
        long bestCost = 0;
        long bestLower = 1;
        for (int k = 0; k < now.columns; k++) {
            long lower = w.coefficientOf(v, k);
            if (lower > 0 && (best == NONE || now.costs[k] * bestLower < bestCost * lower)) {
                best = k;
                bestCost = now.costs[k];
                bestLower = lower;
            }
        }
        return best;
    }

    private int facetOf(Values v) {
        Group g = freshGroup();
        judge.judge(v, g);
        return v.isFacet(g) ? 1 : 0;
    }

    private boolean isMiddle(Values v, Values one, Values two) {
        Group g = freshGroup();
        for (int e = 0; e < g.size; e++) {
            long sum = (long) one.at[e] * two.scale + (long) two.at[e] * one.scale;
            if (sum * v.scale != 2L * v.at[e] * one.scale * two.scale) {
                return false;
            }
        }
        return true;
    }

    /** What is told of a walk by its weight: cost, steps, how often a column is taken. */
    private int toldOf(long weight, int what) {
        if (what == 0) {
            return Weight.costOf(weight);
        }
        if (what == 1) {
            return Weight.stepsOf(weight);
        }
        return what >= 2 && isColumn(what - 2) ? Weight.timesOf(weight, what - 2) : NONE;
    }

    private static int greatestDivisor(int a, int b) {
        int x = Math.abs(a);
        int y = Math.abs(b);
        for (int turn = 0; turn < 64 && y != 0; turn++) {
            int rest = x % y;
            x = y;
            y = rest;
        }
        return x;
    }

    // ------------------------------------------------------------------ classes

    /** All that undo() and back() bring again. An image with no rows was never kept. */
    private static final class Model {
        private int rows = 0;
        private int columns = 0;
        private int cuts = 0;
        private final int[] basis = new int[MOST_ROWS * MOST_ROWS];
        private final int[] right = new int[MOST_ROWS];
        private final int[] entries = new int[MOST_COLUMNS * MOST_ROWS];
        private final int[] costs = new int[MOST_COLUMNS];
        private final Cut[] made = new Cut[MOST_CUTS];

        private void restart(int m) {
            rows = m;
            columns = 0;
            Arrays.fill(basis, 0);
            for (int i = 0; i < MOST_ROWS; i++) {
                basis[i * MOST_ROWS + i] = 1;
            }
            Arrays.fill(right, 0);
            loseCuts();
        }

        private void loseCuts() {
            cuts = 0;
            for (int i = 0; i < MOST_CUTS; i++) {
                made[i] = null;
            }
        }

        private void copyFrom(Model other) {
            rows = other.rows;
            columns = other.columns;
            cuts = other.cuts;
            System.arraycopy(other.basis, 0, basis, 0, basis.length);
            System.arraycopy(other.right, 0, right, 0, right.length);
            System.arraycopy(other.entries, 0, entries, 0, entries.length);
            System.arraycopy(other.costs, 0, costs, 0, costs.length);
            for (int i = 0; i < MOST_CUTS; i++) {
                made[i] = other.made[i];
            }
        }

        private void addColumn(int a, int b, int c, int price) {
            if (columns >= MOST_COLUMNS) {
                return;
            }
            int start = columns * MOST_ROWS;
            entries[start] = a;
            entries[start + 1] = rows > 1 ? b : 0;
            entries[start + 2] = rows > 2 ? c : 0;
            costs[columns] = price;
            columns++;
        }

        private void removeColumn(int k) {
            for (int i = k; i + 1 < columns; i++) {
                for (int r = 0; r < MOST_ROWS; r++) {
                    entries[i * MOST_ROWS + r] = entries[(i + 1) * MOST_ROWS + r];
                }
                costs[i] = costs[i + 1];
            }
            columns--;
        }
    }

    /** The latest acts, each with what stood ahead of it, in a ring. */
    private static final class History {
        private final Model[] models = new Model[MOST_UNDONE];
        private final int[] acts = new int[MOST_UNDONE];
        private int next = 0;
        private int kept = 0;

        private History() {
            for (int i = 0; i < MOST_UNDONE; i++) {
                models[i] = new Model();
            }
        }

        private void keep(Model model, int act) {
            models[next].copyFrom(model);
            acts[next] = act;
            next = (next + 1) % MOST_UNDONE;
            kept = Math.min(kept + 1, MOST_UNDONE);
        }

        private int giveBack(Model model) {
            next = (next + MOST_UNDONE - 1) % MOST_UNDONE;
            kept--;
            model.copyFrom(models[next]);
            return acts[next];
        }
    }

    /** A function with its text. It is never changed once made, so that models can share it. */
    private static final class Cut {
        private final int kind;
        private final int[] ints;
        private final Values values = new Values();

        private Cut(int kind, int[] read, int many) {
            this.kind = kind;
            this.ints = Arrays.copyOf(read, Math.max(0, many));
        }
    }

    /** A function on the group, and what a judge found of it. */
    private static final class Values {
        private final int[] at = new int[MOST_ELEMENTS];
        private int scale = 0;
        private boolean isJudged = false;
        private int bad = 0;
        private int firstBad = NONE;
        private int tight = 0;
        private int rank = 0;
        private boolean isSymmetric = false;

        private boolean isSubadditive() {
            return bad == 0 && at[0] == 0;
        }

        private boolean isFacet(Group g) {
            return isSubadditive() && isSymmetric && rank == g.size - 1;
        }

        private void fillByFraction(int x, int y, int z, Group g) {
            for (int e = 0; e < g.size; e++) {
                at[e] = g.partOf(x, y, z, e);
            }
        }

        private void fillByCharacter(int x, int y, int z, Group g) {
            int pivot = g.partOf(x, y, z, g.goal);
            for (int e = 0; e < g.size; e++) {
                int part = g.partOf(x, y, z, e);
                at[e] = part <= pivot ? part * (g.size - pivot) : (g.size - part) * pivot;
            }
            scale = at[g.goal];
        }

        private void divideByCommon(Group g) {
            int common = 0;
            for (int e = 0; e < g.size; e++) {
                common = greatestDivisor(common, at[e]);
            }
            if (common == 0) {
                return;
            }
            for (int e = 0; e < g.size; e++) {
                at[e] /= common;
            }
            scale /= common;
        }

        /** Below 0, 0 or above, as this one comes ahead of another, is like it, or behind. */
        private int compareWith(Values other, Group g) {
            for (int e = 0; e < g.size; e++) {
                if (at[e] != other.at[e]) {
                    return at[e] < other.at[e] ? -1 : 1;
                }
            }
            return 0;
        }

        private int zeroBits(Group g) {
            int bits = 0;
            for (int e = 0; e < g.size; e++) {
                if (at[e] == 0) {
                    bits |= 1 << e;
                }
            }
            return bits;
        }

        private boolean hasSubgroupOfZeros(Group g) {
            if (at[0] != 0) {
                return false;
            }
            for (int a = 0; a < g.size; a++) {
                for (int b = a; b < g.size && at[a] == 0; b++) {
                    if (at[b] == 0 && at[g.sumOf(a, b)] != 0) {
                        return false;
                    }
                }
            }
            return true;
        }
    }

    /** The group of what is left by the basis; its size is 0, if there is none. */
    private static final class Group {
        private int size = 0;
        private int determinant = 0;
        private int goal = 0;
        private final int[] hermite = new int[MOST_ROWS * MOST_ROWS];
        /** The inverse of the basis, times the determinant without its sign. */
        private final int[] inverse = new int[MOST_ROWS * MOST_ROWS];
        private final int[] invariants = new int[MOST_ROWS];
        private final int[] leastRows = new int[MOST_ELEMENTS * MOST_ROWS];
        private final int[] sums = new int[MOST_ELEMENTS * MOST_ELEMENTS];

        private void build(Model model) {
            invert(model.basis);
            size = Math.abs(determinant) <= MOST_ELEMENTS ? Math.abs(determinant) : 0;
            if (size == 0) {
                return;
            }
            findInvariants(model.basis);
            System.arraycopy(model.basis, 0, hermite, 0, hermite.length);
            for (int i = 0; i < MOST_ROWS; i++) {
                clearRight(i);
                reduceLeft(i);
            }
            listLeastRows();
            listSums();
            goal = elementOf(model.right[0], model.right[1], model.right[2]);
        }

        private boolean has(int e) {
            return e >= 0 && e < size;
        }

        private int sumOf(int a, int b) {
            return sums[a * MOST_ELEMENTS + b];
        }

        private void invert(int[] b) {
            for (int r = 0; r < MOST_ROWS; r++) {
                for (int c = 0; c < MOST_ROWS; c++) {
                    // going on in a ring gives the minor with its sign
                    int up = (c + 1) % MOST_ROWS * MOST_ROWS;
                    int low = (c + 2) % MOST_ROWS * MOST_ROWS;
                    int near = (r + 1) % MOST_ROWS;
                    int away = (r + 2) % MOST_ROWS;
                    inverse[r * MOST_ROWS + c] = b[up + near] * b[low + away] - b[up + away] * b[low + near];
                }
            }
            determinant = b[0] * inverse[0] + b[1] * inverse[3] + b[2] * inverse[6];
            for (int i = 0; i < inverse.length && determinant < 0; i++) {
                inverse[i] = -inverse[i];
            }
        }

        /** By the greatest divisors of all entries, all minors of two rows, the determinant. */
        private void findInvariants(int[] b) {
            int one = 0;
            int two = 0;
            for (int i = 0; i < b.length; i++) {
                one = greatestDivisor(one, b[i]);
                two = greatestDivisor(two, inverse[i]);
            }
            if (one == 0 || two == 0) {
                return;
            }
            invariants[0] = one;
            invariants[1] = two / one;
            invariants[2] = size / two;
        }

        /** Makes row i zero right of the diagonal, and above zero on it, by steps of columns. */
        private void clearRight(int i) {
            for (int j = i + 1; j < MOST_ROWS; j++) {
                for (int turn = 0; turn < 64 && hermite[i * MOST_ROWS + j] != 0; turn++) {
                    int times = hermite[i * MOST_ROWS + i] / hermite[i * MOST_ROWS + j];
                    takeAway(i, j, times);
                    swap(i, j);
                }
            }
            if (hermite[i * MOST_ROWS + i] < 0) {
                takeAway(i, i, 2);
            }
        }

        private void reduceLeft(int i) {
            int diagonal = hermite[i * MOST_ROWS + i];
            for (int j = 0; j < i && diagonal > 0; j++) {
                takeAway(j, i, Math.floorDiv(hermite[i * MOST_ROWS + j], diagonal));
            }
        }

        /** Column i less so many times column j. */
        private void takeAway(int i, int j, int times) {
            for (int r = 0; r < MOST_ROWS; r++) {
                hermite[r * MOST_ROWS + i] -= times * hermite[r * MOST_ROWS + j];
            }
        }

        private void swap(int i, int j) {
            for (int r = 0; r < MOST_ROWS; r++) {
                int held = hermite[r * MOST_ROWS + i];
                hermite[r * MOST_ROWS + i] = hermite[r * MOST_ROWS + j];
                hermite[r * MOST_ROWS + j] = held;
            }
        }

        private void listLeastRows() {
            int second = Math.max(1, hermite[4]);
            int third = Math.max(1, hermite[8]);
            for (int e = 0; e < size; e++) {
                leastRows[e * MOST_ROWS] = e / third / second;
                leastRows[e * MOST_ROWS + 1] = e / third % second;
                leastRows[e * MOST_ROWS + 2] = e % third;
            }
        }

        private void listSums() {
            for (int a = 0; a < size; a++) {
                for (int b = a; b < size; b++) {
                    int p = a * MOST_ROWS;
                    int q = b * MOST_ROWS;
                    int sum = elementOf(leastRows[p] + leastRows[q], leastRows[p + 1] + leastRows[q + 1],
                        leastRows[p + 2] + leastRows[q + 2]);
                    sums[a * MOST_ELEMENTS + b] = sum;
                    sums[b * MOST_ELEMENTS + a] = sum;
                }
            }
        }

        private int elementOf(int a, int b, int c) {
            int first = Math.max(1, hermite[0]);
            int second = Math.max(1, hermite[4]);
            int third = Math.max(1, hermite[8]);
            int times = Math.floorDiv(a, first);
            int x = a - times * first;
            int rest = b - times * hermite[3];
            int more = Math.floorDiv(rest, second);
            int y = rest - more * second;
            int z = Math.floorMod(c - times * hermite[6] - more * hermite[7], third);
            return (x * second + y) * third + z;
        }

        /** How number c of a row counts in its part by multipliers u, v, w. */
        private int weightOf(int u, int v, int w, int c) {
            int sum = u * inverse[c] + v * inverse[MOST_ROWS + c] + w * inverse[2 * MOST_ROWS + c];
            return Math.floorMod(sum, Math.max(1, size));
        }

        private int partOf(int x, int y, int z, int e) {
            int p = e * MOST_ROWS;
            int sum = x * leastRows[p] + y * leastRows[p + 1] + z * leastRows[p + 2];
            return Math.floorMod(sum, Math.max(1, size));
        }
    }

    /** The least sums of weights by which steps make each element. */
    private static final class Spread {
        private int steps = 0;
        private final int[] elements = new int[MOST_ELEMENTS];
        private final long[] weights = new long[MOST_ELEMENTS];
        private final long[] far = new long[MOST_ELEMENTS];

        private void add(int element, long weight) {
            if (steps < MOST_ELEMENTS) {
                elements[steps] = element;
                weights[steps] = weight;
                steps++;
            }
        }

        private void run(Group g) {
            Arrays.fill(far, NO_WAY);
            far[0] = 0;
            boolean isNearer = true;
            for (int round = 0; round < g.size && isNearer; round++) {
                isNearer = false;
                for (int e = 0; e < g.size; e++) {
                    isNearer = goOn(g, e) || isNearer;
                }
            }
        }

        private boolean goOn(Group g, int from) {
            boolean isNearer = false;
            for (int i = 0; i < steps && far[from] != NO_WAY; i++) {
                int to = g.sumOf(from, elements[i]);
                long sum = far[from] + weights[i];
                if (sum < far[to]) {
                    far[to] = sum;
                    isNearer = true;
                }
            }
            return isNearer;
        }
    }

    /**
     * A walk as one number that is less for the walk that is shorter: its cost, then its steps,
     * then, taken away from these, how often each column is taken, column 0 foremost. A shortest
     * walk meets no element twice, so none is taken more than 23 times, and five bits are enough.
     */
    private static final class Weight {
        private static final int COST_SHIFT = 40;
        private static final int STEP_SHIFT = 32;
        private static final int TIMES_BITS = 5;

        private static long ofColumn(int k, int price) {
            return ((long) price << COST_SHIFT) + (1L << STEP_SHIFT) - (1L << timesShift(k));
        }

        private static int timesShift(int k) {
            return TIMES_BITS * (MOST_COLUMNS - 1 - k);
        }

        private static long withoutTimes(long weight) {
            return (weight + (1L << STEP_SHIFT) - 1) >> STEP_SHIFT;
        }

        private static int costOf(long weight) {
            return (int) (withoutTimes(weight) >> (COST_SHIFT - STEP_SHIFT));
        }

        private static int stepsOf(long weight) {
            return (int) (withoutTimes(weight) & ((1L << (COST_SHIFT - STEP_SHIFT)) - 1));
        }

        private static int timesOf(long weight, int k) {
            long times = (withoutTimes(weight) << STEP_SHIFT) - weight;
            return (int) (times >> timesShift(k)) & ((1 << TIMES_BITS) - 1);
        }
    }

    /** The columns as steps in the group, the shortest walk, and the shortest one to a point. */
    private static final class Walks {
        private final Spread columns = new Spread();
        private final int[] taken = new int[MOST_COLUMNS];
        private final int[] basics = new int[MOST_ROWS];
        private final int[] tried = new int[MOST_ROWS];
        private boolean isPoint = false;
        private boolean wholeIsFound = false;
        private long wholeWeight = NO_WAY;

        private void build(Model model, Group g) {
            columns.steps = 0;
            if (g.size == 0) {
                return;
            }
            for (int k = 0; k < model.columns; k++) {
                int p = k * MOST_ROWS;
                int element = g.elementOf(model.entries[p], model.entries[p + 1], model.entries[p + 2]);
                columns.add(element, Weight.ofColumn(k, model.costs[k]));
            }
            columns.run(g);
            wholeIsFound = false;
            long shortest = columns.far[g.goal];
            if (shortest == NO_WAY) {
                return;
            }
            for (int k = 0; k < model.columns; k++) {
                taken[k] = Weight.timesOf(shortest, k);
            }
            isPoint = solve(model, g, basics);
        }

        /** The basics of what is taken: whether none is below 0. */
        private boolean solve(Model model, Group g, int[] found) {
            int x = model.right[0];
            int y = model.right[1];
            int z = model.right[2];
            for (int k = 0; k < model.columns; k++) {
                x -= taken[k] * model.entries[k * MOST_ROWS];
                y -= taken[k] * model.entries[k * MOST_ROWS + 1];
                z -= taken[k] * model.entries[k * MOST_ROWS + 2];
            }
            boolean noneBelow = true;
            for (int i = 0; i < MOST_ROWS; i++) {
                int p = i * MOST_ROWS;
                int sum = g.inverse[p] * x + g.inverse[p + 1] * y + g.inverse[p + 2] * z;
                found[i] = sum / Math.max(1, g.size);
                noneBelow = noneBelow && sum >= 0;
            }
            return noneBelow;
        }

        private long wholeOf(Model model, Group g) {
            if (wholeIsFound) {
                return wholeWeight;
            }
            wholeWeight = NO_WAY;
            wholeIsFound = true;
            Arrays.fill(taken, 0);
            boolean isMore = true;
            for (int way = 0; way < MOST_WAYS && isMore; way++) {
                long weight = weightOfTaken();
                if (weight < wholeWeight && makesGoal(g) && solve(model, g, tried)) {
                    wholeWeight = weight;
                }
                isMore = takeNext(WHOLE_STEPS);
            }
            return wholeWeight;
        }

        private int touchedOf(Values v, Group g) {
            int touched = 0;
            Arrays.fill(taken, 0);
            boolean isMore = true;
            for (int way = 0; way < MOST_WAYS && isMore; way++) {
                if (valueOf(v, taken) == v.scale && makesGoal(g)) {
                    touched++;
                }
                isMore = takeNext(TOUCHED_STEPS);
            }
            return touched;
        }

        private long weightOfTaken() {
            long sum = 0;
            for (int k = 0; k < columns.steps; k++) {
                sum += taken[k] * columns.weights[k];
            }
            return sum;
        }

        private int coefficientOf(Values v, int k) {
            return v.at[columns.elements[k]];
        }

        private int valueOf(Values v, int[] times) {
            int sum = 0;
            for (int k = 0; k < columns.steps; k++) {
                sum += times[k] * coefficientOf(v, k);
            }
            return sum;
        }

        private boolean makesGoal(Group g) {
            int sum = 0;
            for (int k = 0; k < columns.steps; k++) {
                for (int t = 0; t < taken[k]; t++) {
                    sum = g.sumOf(sum, columns.elements[k]);
                }
            }
            return sum == g.goal;
        }

        /** Goes on to the next way to take so many steps at most: false behind the last. */
        private boolean takeNext(int most) {
            int all = 0;
            for (int k = 0; k < columns.steps; k++) {
                all += taken[k];
            }
            for (int k = 0; k < columns.steps; k++) {
                if (all < most) {
                    taken[k]++;
                    return true;
                }
                all -= taken[k];
                taken[k] = 0;
            }
            return false;
        }
    }

    /** Finds what is asked of a function: bad pairs, tight ones, the rank of their equations. */
    private static final class Judge {
        private static final long PRIME = 1000003;
        private final long[] row = new long[MOST_ELEMENTS];
        /** Row i, if it is there, begins at i: all ahead of it is 0. */
        private final long[] rows = new long[MOST_ELEMENTS * MOST_ELEMENTS];
        private int rank = 0;

        private void judge(Values v, Group g) {
            if (v.isJudged) {
                return;
            }
            Arrays.fill(rows, 0);
            Arrays.fill(row, 0);
            rank = 0;
            row[g.goal] = 1;
            addRow(g.size);
            v.bad = 0;
            v.firstBad = NONE;
            v.tight = 0;
            v.isSymmetric = true;
            for (int a = 0; a < g.size; a++) {
                for (int b = a; b < g.size; b++) {
                    judgePair(v, g, a, b);
                }
            }
            v.rank = rank;
            v.isJudged = true;
        }

        private void judgePair(Values v, Group g, int a, int b) {
            int both = g.sumOf(a, b);
            int sum = v.at[a] + v.at[b];
            if (both == g.goal && sum != v.scale) {
                v.isSymmetric = false;
            }
            if (sum < v.at[both]) {
                v.firstBad = v.bad == 0 ? 100 * a + b : v.firstBad;
                v.bad++;
            }
            if (sum == v.at[both] && a != 0) {
                v.tight++;
                addPair(a, b, both, g.size);
            }
        }

        private void addPair(int a, int b, int both, int size) {
            if (rank >= size - 1) {
                return;
            }
            Arrays.fill(row, 0);
            row[a]++;
            row[b]++;
            row[both] += PRIME - 1;
            addRow(size);
        }

        /** Takes the row up, if it is apart from those that are there; x(0) is 0, so not asked. */
        private void addRow(int size) {
            for (int lead = 1; lead < size; lead++) {
                long head = row[lead] % PRIME;
                long pivot = rows[lead * MOST_ELEMENTS + lead];
                if (head != 0 && pivot == 0) {
                    keepRow(lead, size);
                    rank++;
                    return;
                }
                for (int c = lead; c < size && head != 0; c++) {
                    long less = head * rows[lead * MOST_ELEMENTS + c];
                    row[c] = Math.floorMod(row[c] * pivot - less, PRIME);
                }
            }
        }

        private void keepRow(int lead, int size) {
            for (int c = lead; c < size; c++) {
                rows[lead * MOST_ELEMENTS + c] = row[c] % PRIME;
            }
        }
    }

    /** All functions by gmi of all multipliers. */
    private static final class Table {
        private int size = 0;
        /** One more than there can be, for the one that is tried. */
        private final Values[] functions = new Values[MOST_ELEMENTS + 1];
        private int found = 0;
        private final int[] characters = new int[MOST_ELEMENTS * MOST_ROWS];

        private Table() {
            for (int i = 0; i < functions.length; i++) {
                functions[i] = new Values();
            }
        }

        private void build(Group g) {
            size = 0;
            found = 0;
            if (g.size == 0) {
                return;
            }
            findCharacters(g);
            for (int i = 0; i < found; i++) {
                int p = i * MOST_ROWS;
                Values tried = functions[size];
                tried.isJudged = false;
                tried.fillByCharacter(characters[p], characters[p + 1], characters[p + 2], g);
                if (tried.scale != 0) {
                    tried.divideByCommon(g);
                    putInOrder(g);
                }
            }
        }

        /**
         * Multipliers are alike, if their weights are; the weights of all multipliers are the sums
         * of those of the three unit ones, and there are as many as elements.
         */
        private void findCharacters(Group g) {
            addCharacter(0, 0, 0);
            for (int i = 0; i < found && i < MOST_ELEMENTS; i++) {
                for (int r = 0; r < MOST_ROWS; r++) {
                    int p = i * MOST_ROWS;
                    int u = r == 0 ? 1 : 0;
                    int v = r == 1 ? 1 : 0;
                    int w = r == 2 ? 1 : 0;
                    int x = (characters[p] + g.weightOf(u, v, w, 0)) % Math.max(1, g.size);
                    int y = (characters[p + 1] + g.weightOf(u, v, w, 1)) % Math.max(1, g.size);
                    int z = (characters[p + 2] + g.weightOf(u, v, w, 2)) % Math.max(1, g.size);
                    addCharacter(x, y, z);
                }
            }
        }

        private void addCharacter(int x, int y, int z) {
            for (int i = 0; i < found; i++) {
                int p = i * MOST_ROWS;
                if (characters[p] == x && characters[p + 1] == y && characters[p + 2] == z) {
                    return;
                }
            }
            if (found < MOST_ELEMENTS) {
                characters[found * MOST_ROWS] = x;
                characters[found * MOST_ROWS + 1] = y;
                characters[found * MOST_ROWS + 2] = z;
                found++;
            }
        }

        /** Moves the function that is tried, behind the last, to its place, if it is new. */
        private void putInOrder(Group g) {
            Values tried = functions[size];
            int place = 0;
            for (int i = 0; i < size; i++) {
                int order = functions[i].compareWith(tried, g);
                if (order == 0) {
                    return;
                }
                place = order < 0 ? i + 1 : place;
            }
            for (int i = size; i > place; i--) {
                functions[i] = functions[i - 1];
            }
            functions[place] = tried;
            size = Math.min(size + 1, MOST_ELEMENTS);
        }
    }

    /** The bytes of a text, and the reading of it. */
    private static final class Tape {
        private final int[] bytes = new int[MOST_BYTES];
        private int length = 0;
        private int place = 0;
        private int wrong = NONE;

        private int byteAt(int i) {
            return i >= 0 && i < length ? bytes[i] : NONE;
        }

        private void put(int b) {
            if (length < MOST_BYTES) {
                bytes[length] = b & 255;
                length++;
            }
        }

        private void putFour(int v) {
            put(v >>> 24);
            put(v >>> 16);
            put(v >>> 8);
            put(v);
        }

        private void putWord(String word) {
            for (int i = 0; i < word.length(); i++) {
                put(word.charAt(i));
            }
        }

        private void putInt(int v) {
            if (v < 0) {
                put('-');
            }
            int rest = Math.abs(v);
            int unit = 1;
            for (int digits = 1; digits < 6 && rest / 10 >= unit; digits++) {
                unit *= 10;
            }
            for (; unit > 0; unit /= 10) {
                put('0' + rest / unit % 10);
            }
        }

        private void startReading() {
            place = 0;
            wrong = NONE;
        }

        private void skipBlanks() {
            while (place < length && bytes[place] == ' ') {
                place++;
            }
        }

        private boolean isDigit(int i) {
            return byteAt(i) >= '0' && byteAt(i) <= '9';
        }

        /** The kind of the word that comes, or NONE. */
        private int readKind() {
            skipBlanks();
            int start = place;
            while (place < length && bytes[place] >= 'a' && bytes[place] <= 'z') {
                place++;
            }
            for (int kind = 0; kind < KINDS; kind++) {
                if (spells(start, wordOf(kind))) {
                    return kind;
                }
            }
            wrong = start;
            return NONE;
        }

        private boolean spells(int start, String word) {
            if (place - start != word.length()) {
                return false;
            }
            for (int i = 0; i < word.length(); i++) {
                if (byteAt(start + i) != word.charAt(i)) {
                    return false;
                }
            }
            return true;
        }

        private int readInt(int low, int high) {
            skipBlanks();
            int start = place;
            boolean isMinus = byteAt(place) == '-';
            if (isMinus) {
                place++;
            }
            int first = place;
            int v = 0;
            while (place < length && isDigit(place)) {
                // held low, as a long row of digits can't be anyway
                v = Math.min(v, 9999999) * 10 + bytes[place] - '0';
                place++;
            }
            int digits = place - first;
            v = isMinus ? -v : v;
            if (digits < 1 || digits > 6 || v < low || v > high) {
                wrong = start;
            }
            return v;
        }

        private void readNothing() {
            skipBlanks();
            if (wrong == NONE && place < length) {
                wrong = place;
            }
        }
    }
}
