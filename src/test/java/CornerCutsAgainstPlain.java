import java.util.ArrayDeque;
import java.util.ArrayList;
import java.util.Arrays;
import java.util.Comparator;
import java.util.HashMap;
import java.util.List;
import java.util.Map;
import java.util.Random;
import java.util.TreeSet;
import java.util.regex.Matcher;
import java.util.regex.Pattern;

/**
 * Long runs of calls, from fixed seeds, on the class and on a second model that is written from
 * the document's words alone, by other ways (searches and enumerations); all answers must agree.
 */
public final class CornerCutsAgainstPlain {
    /** What an object answers behind so many calls is free. */
    private static final int LAST_CALL = 512;
    private static int wrong = 0;
    private static final List<String> calls = new ArrayList<>();
    private static CornerCuts x;
    private static Plain p;

    private static void agree(String call, long got, long want) {
        calls.add(call + " -> " + want);
        if (calls.size() > LAST_CALL) {
            wrong++;
            System.out.println(call + " is call " + calls.size() + " of one object");
        }
        if (got != want) {
            wrong++;
            if (wrong <= 5) {
                System.out.println(call + " answered " + got + ", due is " + want);
                for (String c : calls.subList(Math.max(0, calls.size() - 60), calls.size())) {
                    System.out.println("    " + c);
                }
            }
        }
    }

    public static void main(String[] args) {
        int runs = args.length > 0 ? Integer.parseInt(args[0]) : 120;
        int seed = args.length > 1 ? Integer.parseInt(args[1]) : 1;
        for (int run = 0; run < runs && wrong == 0; run++) {
            oneRun(new Random(1000003L * seed + run));
        }
        System.out.println(wrong == 0 ? "both models agree" : wrong + " answers are not as due");
        if (wrong != 0) {
            System.exit(1);
        }
    }

    /**
     * Every fourth run is of calls of all kinds alike; the others build something, then ask. Half
     * of the runs leave room for many questions at their end.
     */
    private static void oneRun(Random r) {
        x = new CornerCuts();
        p = new Plain();
        calls.clear();
        boolean isRich = r.nextInt(4) > 0;
        if (isRich) {
            buildSome(r);
        }
        int acts = r.nextBoolean() ? LAST_CALL - 150 : 120;
        while (calls.size() < acts) {
            int kind = r.nextInt(isRich ? 400 : 100);
            if (isRich && r.nextInt(60) == 0) {
                buildSome(r);
            } else {
                oneCall(r, kind);
            }
            agree("status", x.status(), p.status);
            agree("fault", x.fault(), p.fault);
        }
        askAll(r);
    }

    private static void buildSome(Random r) {
        setRows(r);
        goodBasis(r);
        for (int i = 0; i < p.s.m; i++) {
            oneRight(r);
        }
        for (int tries = 0; tries < 5 && p.goal(-1) <= 0; tries++) {
            oneRight(r);
        }
        int columns = r.nextInt(7);
        for (int k = 0; k < columns; k++) {
            oneColumn(r);
        }
        int cuts = r.nextInt(9);
        for (int k = 0; k < cuts; k++) {
            textAndCut(r);
        }
        if (r.nextInt(3) == 0) {
            middleText(r);
        }
    }

    /** A told function half way between two of the table. */
    private static void middleText(Random r) {
        List<int[]> f = p.size() == 0 ? new ArrayList<>() : p.functions();
        if (f.size() < 2) {
            return;
        }
        int j = 1 + r.nextInt(f.size() - 1);
        int i = r.nextInt(j);
        int g = p.goal(-1);
        int[] v = new int[p.size()];
        int common = 0;
        for (int e = 0; e < v.length; e++) {
            v[e] = f.get(i)[e] * f.get(j)[g] + f.get(j)[e] * f.get(i)[g];
            common = Plain.gcd(common, v[e]);
        }
        StringBuilder t = new StringBuilder("told");
        for (int n : v) {
            t.append(' ').append(n / common);
        }
        cutBy(r, t.toString());
        int last = p.s.cuts.size() - 1;
        agree("middle " + last, x.middle(last), p.middle(last));
    }

    private static void oneCall(Random r, int kind) {
        int k = r.nextInt(8) - 1;
        int few = r.nextInt(4) - 1;
        if (kind < 1) {
            setRows(r);
        } else if (kind < 3) {
            goodBasis(r);
        } else if (kind < 5) {
            oneBasis(r);
        } else if (kind < 8) {
            oneRight(r);
        } else if (kind < 17) {
            oneColumn(r);
        } else if (kind < 20) {
            int v = r.nextInt(8) == 0 ? r.nextInt(300) - 100 : r.nextInt(12);
            agree("cost " + k + " " + v, x.cost(k, v), p.cost(k, v));
        } else if (kind < 22) {
            agree("drop " + k, x.drop(k), p.drop(k));
        } else if (kind < 24) {
            agree("uncut", x.uncut(), p.uncut());
        } else if (kind < 28) {
            agree("undo", x.undo(), p.undo());
        } else if (kind < 30) {
            agree("image " + few, x.image(few), p.image(few));
        } else if (kind < 32) {
            agree("back " + few, x.back(few), p.back(few));
        } else if (kind < 55) {
            textAndCut(r);
        } else if (kind < 58) {
            agree("listing " + k, x.listing(k), p.listing(k));
        } else if (kind < 59) {
            int n = r.nextInt(60) - 5;
            agree("end " + n, x.end(n), p.end(n));
        } else {
            askSome(r);
        }
    }

    private static void setRows(Random r) {
        int m = r.nextInt(6) == 0 ? r.nextInt(7) - 2 : 1 + r.nextInt(3);
        agree("rows " + m, x.rows(m), p.rows(m));
    }

    private static void goodBasis(Random r) {
        int m = p.s.m;
        int[][] b = new int[m][m];
        for (int tries = 0; tries < 300; tries++) {
            int span = 1 + r.nextInt(m == 1 ? 24 : m == 2 ? 6 : 4);
            for (int i = 0; i < m; i++) {
                for (int j = 0; j < m; j++) {
                    b[i][j] = Math.max(-9, Math.min(9, r.nextInt(2 * span + 1) - span));
                }
            }
            int d = Math.abs(Plain.det(b));
            if (d >= 1 && d <= 24 && (d > 3 || r.nextInt(20) == 0)) {
                break;
            }
        }
        for (int i = 0; i < m; i++) {
            for (int j = 0; j < m; j++) {
                agree("basis " + i + " " + j + " " + b[i][j], x.basis(i, j, b[i][j]), p.basis(i, j, b[i][j]));
            }
        }
    }

    private static void oneBasis(Random r) {
        int i = r.nextInt(5) == 0 ? r.nextInt(6) - 2 : r.nextInt(p.s.m);
        int j = r.nextInt(5) == 0 ? r.nextInt(6) - 2 : r.nextInt(p.s.m);
        int v = r.nextInt(5) == 0 ? r.nextInt(23) - 11 : r.nextInt(7) - 3;
        agree("basis " + i + " " + j + " " + v, x.basis(i, j, v), p.basis(i, j, v));
    }

    private static void oneRight(Random r) {
        int i = r.nextInt(5) == 0 ? r.nextInt(6) - 2 : r.nextInt(p.s.m);
        int v = r.nextInt(5) == 0 ? r.nextInt(240) - 120 : r.nextInt(30) - 3;
        agree("right " + i + " " + v, x.right(i, v), p.right(i, v));
    }

    private static void oneColumn(Random r) {
        int span = r.nextInt(3) == 0 ? 104 : 6;
        int a = r.nextInt(2 * span + 1) - span;
        int b = r.nextInt(2 * span + 1) - span;
        int c = r.nextInt(2 * span + 1) - span;
        int k = r.nextInt(8) == 0 ? r.nextInt(110) - 5 : r.nextInt(6);
        agree("column " + a + " " + b + " " + c + " " + k, x.column(a, b, c, k), p.column(a, b, c, k));
    }

    private static String randomText(Random r) {
        StringBuilder t = new StringBuilder();
        String[] words = {"gmi", "frac", "step", "both", "hull", "told"};
        int w = r.nextInt(6);
        String gap = r.nextInt(4) == 0 ? "  " : " ";
        if (r.nextInt(6) == 0) {
            t.append(' ');
        }
        t.append(r.nextInt(25) == 0 ? "gmu" : words[w]);
        int m = p.s.m;
        int many = w < 2 ? m : w == 2 ? m + 1 : w == 3 ? 2 : w == 4 ? 1 : Math.max(1, p.size());
        many += r.nextInt(12) == 0 ? r.nextInt(3) - 1 : 0;
        for (int i = 0; i < many; i++) {
            if (r.nextInt(10) > 0 || i > 0) {
                t.append(gap);
            }
            int v;
            if (w < 2 || (w == 2 && i > 0)) {
                v = r.nextInt(19) - 9;
            } else if (w == 2) {
                v = 1 + r.nextInt(23);
            } else if (w < 5) {
                v = r.nextInt(Math.max(1, p.s.cuts.size()));
            } else {
                v = r.nextInt(3) == 0 ? 0 : r.nextInt(r.nextInt(3) == 0 ? 1000 : 6);
            }
            if (r.nextInt(40) == 0) {
                v = r.nextInt(3000) - 1000;
            }
            t.append(r.nextInt(30) == 0 ? String.format("%0" + (1 + r.nextInt(8)) + "d", v) : "" + v);
        }
        if (r.nextInt(6) == 0) {
            t.append(' ');
        }
        if (r.nextInt(12) == 0) {
            t.insert(r.nextInt(t.length() + 1), "- -x0A\0~".charAt(r.nextInt(8)));
        }
        if (r.nextInt(40) == 0) {
            t.setLength(r.nextInt(t.length()));
        }
        return t.toString();
    }

    private static void textAndCut(Random r) {
        cutBy(r, randomText(r));
    }

    private static void cutBy(Random r, String t) {
        if (p.tape.size() > 0) {
            agree("end 0", x.end(0), p.end(0));
        }
        int whole = (t.length() + 19) / 20;
        for (int i = 0; i < whole; i++) {
            int[] f = new int[5];
            for (int j = 0; j < 20; j++) {
                int at = 20 * i + j;
                int b = at < t.length() ? t.charAt(at) : r.nextInt(256);
                f[j / 4] |= b << (24 - 8 * (j % 4));
            }
            agree("feed", x.feed(f[0], f[1], f[2], f[3], f[4]), p.feed(f));
        }
        if (r.nextInt(30) > 0) {
            agree("end " + t.length(), x.end(t.length()), p.end(t.length()));
        }
        if (r.nextInt(30) > 0) {
            agree("cut [" + t + "]", x.cut(), p.cut());
            agree("fault", x.fault(), p.fault);
        }
    }

    private static void askSome(Random r) {
        int cut = r.nextInt(Math.max(1, p.s.cuts.size() + 1)) - (r.nextInt(10) == 0 ? 1 : 0);
        int e = r.nextInt(Math.max(1, p.size() + 1)) - (r.nextInt(5) == 0 ? 1 : 0);
        int f = r.nextInt(Math.max(1, p.size() + 1)) - (r.nextInt(15) == 0 ? 1 : 0);
        int k = r.nextInt(8) - 1;
        for (int i = 0; i < 4; i++) {
            askOne(r, r.nextInt(32), cut, e, f, k);
        }
    }

    private static void askOne(Random r, int which, int cut, int e, int f, int k) {
        int small = r.nextInt(5) - 1;
        int what = r.nextInt(13) - 1;
        switch (which) {
            case 0: agree("determinant", x.determinant(), Plain.det(p.s.basis)); break;
            case 1: agree("hermite " + small, x.hermite(small, k), p.hermite(small, k)); break;
            case 2: agree("invariant " + small, x.invariant(small), p.invariant(small)); break;
            case 3:
                int span = r.nextInt(3) == 0 ? 10100 : 40;
                int a = r.nextInt(2 * span + 1) - span;
                int b = r.nextInt(2 * span + 1) - span;
                int c = r.nextInt(2 * span + 1) - span;
                agree("element " + a + " " + b + " " + c, x.element(a, b, c), p.element(a, b, c));
                break;
            case 4: agree("least " + e + " " + small, x.least(e, small), p.least(e, small)); break;
            case 5: agree("plus " + e + " " + f, x.plus(e, f), p.plus(e, f)); break;
            case 6: agree("order " + e, x.order(e), p.order(e)); break;
            case 7: agree("goal " + k, x.goal(k), p.goal(k)); break;
            case 8: agree("made", x.made(), p.made()); break;
            case 9: case 10: agree("walk " + what, x.walk(what), p.walk(what)); break;
            case 11: agree("basic " + small, x.basic(small), p.basic(small)); break;
            case 12: agree("far " + e + " " + small, x.far(e, small), p.far(e, small)); break;
            case 13: case 14: agree("whole " + what, x.whole(what), p.whole(what)); break;
            case 15: case 16: agree("value " + cut + " " + e, x.value(cut, e), p.value(cut, e)); break;
            case 17: agree("coefficient " + cut + " " + k, x.coefficient(cut, k), p.coefficient(cut, k)); break;
            case 18: case 19: case 20:
                agree("asks " + cut + " " + what, x.asks(cut, what), p.asks(cut, what)); break;
            case 21: case 22: askTaken(r, cut); break;
            case 23:
                int other = r.nextInt(9) - 1;
                agree("isOver " + cut + " " + other, x.isOver(cut, other) ? 1 : 0, p.isOver(cut, other) ? 1 : 0);
                break;
            case 24: agree("table " + small, x.table(small), p.table(small)); break;
            case 25: case 26:
                int i = r.nextInt(14) - 1;
                agree("tabled " + i + " " + e, x.tabled(i, e), p.tabled(i, e));
                break;
            case 27: agree("zeros " + cut + " " + small, x.zeros(cut, small), p.zeros(cut, small)); break;
            case 28: agree("bound " + cut + " " + small, x.bound(cut, small), p.bound(cut, small)); break;
            case 29: agree("tightest", x.tightest(), p.tightest()); break;
            case 30: agree("shot " + e, x.shot(e), p.shot(e)); break;
            default: agree("middle " + cut, x.middle(cut), p.middle(cut));
        }
        int told = r.nextInt(26) - 1;
        agree("count " + told, x.count(told), p.count(told));
    }

    private static void askTaken(Random r, int cut) {
        int[] t = new int[6];
        for (int i = 0; i < 6; i++) {
            t[i] = r.nextInt(40) == 0 ? r.nextInt(110) - 5 : r.nextInt(5) * (r.nextInt(3) == 0 ? 0 : 1);
        }
        agree("depth " + cut + Arrays.toString(t),
            x.depth(cut, t[0], t[1], t[2], t[3], t[4], t[5]), p.depth(cut, t));
        agree("deepest" + Arrays.toString(t),
            x.deepest(t[0], t[1], t[2], t[3], t[4], t[5]), p.deepest(t));
    }

    private static boolean hasRoomFor(int more) {
        return calls.size() + more <= LAST_CALL;
    }

    private static void askAll(Random r) {
        for (int which = 0; which < 32 && hasRoomFor(3); which++) {
            askOne(r, which, r.nextInt(8), r.nextInt(24), r.nextInt(24), r.nextInt(6));
        }
        int length = p.tape.size();
        for (int i = length - 8; i < length + 2 && hasRoomFor(1); i++) {
            agree("tape " + i, x.tape(i), p.byteAt(i));
        }
        for (int e = -1; e <= p.size() && hasRoomFor(3); e++) {
            agree("far " + e, x.far(e, 1), p.far(e, 1));
            agree("shot " + e, x.shot(e), p.shot(e));
            agree("order " + e, x.order(e), p.order(e));
        }
        for (int cut = 0; cut < p.s.cuts.size() && hasRoomFor(13); cut++) {
            for (int what = -1; what < 11; what++) {
                agree("asks " + cut + " " + what, x.asks(cut, what), p.asks(cut, what));
            }
            agree("middle " + cut, x.middle(cut), p.middle(cut));
            for (int other = 0; other < p.s.cuts.size() && hasRoomFor(1); other++) {
                agree("isOver " + cut + " " + other, x.isOver(cut, other) ? 1 : 0, p.isOver(cut, other) ? 1 : 0);
            }
        }
    }

    /** What undo() and back() bring again. */
    private static final class State {
        int m;
        int[][] basis;
        int[] right;
        List<int[]> columns = new ArrayList<>();
        List<Object[]> cuts = new ArrayList<>();

        static State fresh(int m) {
            State s = new State();
            s.m = m;
            s.basis = new int[m][m];
            s.right = new int[m];
            for (int i = 0; i < m; i++) {
                s.basis[i][i] = 1;
            }
            return s;
        }

        State copy() {
            State s = new State();
            s.m = m;
            s.basis = new int[m][];
            for (int i = 0; i < m; i++) {
                s.basis[i] = basis[i].clone();
            }
            s.right = right.clone();
            for (int[] c : columns) {
                s.columns.add(c.clone());
            }
            s.cuts = new ArrayList<>(cuts);
            return s;
        }
    }

    private static final class Plain {
        static final long P = 1000003;
        State s = State.fresh(2);
        final State[] images = new State[2];
        final ArrayDeque<Object[]> history = new ArrayDeque<>();
        List<Integer> tape = new ArrayList<>();
        int status = 0;
        int fault = -1;
        final int[] refused = new int[7];
        private List<int[]> rowsCache;
        private int[][] rowsKey;
        private int[][] sumsCache;
        private final Map<String, Integer> found = new HashMap<>();
        private List<int[]> tableCache;
        private String tableKey;

        // ---- acts

        int refuse(int why) {
            status = why;
            refused[-why]++;
            return why;
        }

        void act(int kind) {
            status = 0;
            history.addLast(new Object[] {kind, s.copy()});
            if (history.size() > 10) {
                history.removeFirst();
            }
        }

        static boolean in(int v, int low, int high) {
            return v >= low && v <= high;
        }

        int rows(int m) {
            if (!in(m, 1, 3)) {
                return refuse(-1);
            }
            act(0);
            s = State.fresh(m);
            return m;
        }

        int basis(int i, int j, int v) {
            if (!in(i, 0, s.m - 1) || !in(j, 0, s.m - 1) || !in(v, -9, 9)) {
                return refuse(-1);
            }
            act(1);
            int was = s.basis[i][j];
            s.basis[i][j] = v;
            if (was != v) {
                s.cuts.clear();
            }
            return was;
        }

        int right(int i, int v) {
            if (!in(i, 0, s.m - 1) || !in(v, -99, 99)) {
                return refuse(-1);
            }
            act(2);
            int was = s.right[i];
            s.right[i] = v;
            if (was != v) {
                s.cuts.clear();
            }
            return was;
        }

        int column(int a, int b, int c, int cost) {
            int[] n = {a, b, c};
            boolean fits = in(cost, 0, 99);
            int[] col = new int[s.m + 1];
            for (int i = 0; i < s.m; i++) {
                fits &= in(n[i], -99, 99);
                col[i] = n[i];
            }
            col[s.m] = cost;
            if (!fits) {
                return refuse(-1);
            }
            if (s.columns.size() == 6) {
                return refuse(-5);
            }
            act(3);
            s.columns.add(col);
            return s.columns.size() - 1;
        }

        int cost(int k, int v) {
            if (!in(v, 0, 99)) {
                return refuse(-1);
            }
            if (!in(k, 0, s.columns.size() - 1)) {
                return refuse(-2);
            }
            act(4);
            int was = s.columns.get(k)[s.m];
            s.columns.get(k)[s.m] = v;
            return was;
        }

        int drop(int k) {
            if (!in(k, 0, s.columns.size() - 1)) {
                return refuse(-2);
            }
            act(5);
            s.columns.remove(k);
            return s.columns.size();
        }

        int uncut() {
            if (s.cuts.isEmpty()) {
                return refuse(-4);
            }
            act(7);
            s.cuts.remove(s.cuts.size() - 1);
            return s.cuts.size();
        }

        int undo() {
            if (history.isEmpty()) {
                return refuse(-4);
            }
            status = 0;
            Object[] last = history.removeLast();
            s = (State) last[1];
            return (Integer) last[0];
        }

        int image(int k) {
            if (!in(k, 0, 1)) {
                return refuse(-1);
            }
            status = 0;
            images[k] = s.copy();
            return s.m;
        }

        int back(int k) {
            if (!in(k, 0, 1)) {
                return refuse(-1);
            }
            if (images[k] == null) {
                return refuse(-4);
            }
            status = 0;
            s = images[k].copy();
            history.clear();
            return s.m;
        }

        // ---- texts

        int feed(int[] f) {
            if (tape.size() + 20 > 400) {
                return -1;
            }
            for (int v : f) {
                for (int sh = 24; sh >= 0; sh -= 8) {
                    tape.add((v >> sh) & 255);
                }
            }
            return tape.size();
        }

        int end(int n) {
            if (n < 0 || n > tape.size()) {
                return -1;
            }
            tape = new ArrayList<>(tape.subList(0, n));
            return n;
        }

        int byteAt(int i) {
            return i >= 0 && i < tape.size() ? tape.get(i) : -1;
        }

        int cut() {
            if (size() == 0) {
                tape.clear();
                return refuse(-4);
            }
            if (s.cuts.size() == 8) {
                return refuse(-5);
            }
            StringBuilder t = new StringBuilder();
            for (int b : tape) {
                t.append((char) b);
            }
            List<Integer> ints = new ArrayList<>();
            String[] word = new String[1];
            fault = parse(t.toString(), word, ints);
            tape.clear();
            if (fault >= 0) {
                return refuse(-6);
            }
            int[] v = values(word[0], ints);
            if (v[goal(-1)] == 0) {
                return refuse(-4);
            }
            act(6);
            StringBuilder text = new StringBuilder(word[0]);
            for (int i : ints) {
                text.append(' ').append(i);
            }
            s.cuts.add(new Object[] {text.toString(), v});
            return s.cuts.size() - 1;
        }

        int parse(String t, String[] word, List<Integer> ints) {
            Matcher k = Pattern.compile("(?s)[a-z]+|-?[0-9]+|[^ ]").matcher(t);
            if (!k.find()) {
                return t.length();
            }
            word[0] = k.group();
            int[][] limits = limits(word[0]);
            if (limits == null) {
                return k.start();
            }
            for (int[] l : limits) {
                if (!k.find()) {
                    return t.length();
                }
                String g = k.group();
                if (!g.matches("-?[0-9]{1,6}") || !in(Integer.parseInt(g), l[0], l[1])) {
                    return k.start();
                }
                ints.add(Integer.parseInt(g));
            }
            return k.find() ? k.start() : -1;
        }

        int[][] limits(String word) {
            int[][] l;
            switch (word) {
                case "gmi": case "frac":
                    l = new int[s.m][];
                    Arrays.fill(l, new int[] {-9, 9});
                    return l;
                case "step":
                    l = new int[s.m + 1][];
                    Arrays.fill(l, new int[] {-9, 9});
                    l[0] = new int[] {1, 23};
                    return l;
                case "both": case "hull":
                    l = new int[word.equals("both") ? 2 : 1][];
                    Arrays.fill(l, new int[] {0, s.cuts.size() - 1});
                    return l;
                case "told":
                    l = new int[size()][];
                    Arrays.fill(l, new int[] {0, 999});
                    return l;
                default:
                    return null;
            }
        }

        int listing(int k) {
            if (!in(k, 0, s.cuts.size() - 1)) {
                return refuse(-2);
            }
            status = 0;
            tape.clear();
            for (char c : ((String) s.cuts.get(k)[0]).toCharArray()) {
                tape.add((int) c);
            }
            return tape.size();
        }

        int[] values(String word, List<Integer> ints) {
            int d = size();
            int[] v = new int[d];
            if (word.equals("told")) {
                for (int e = 0; e < d; e++) {
                    v[e] = ints.get(e);
                }
            } else if (word.equals("both")) {
                for (int e = 0; e < d; e++) {
                    v[e] = cutValues(ints.get(0))[e] + cutValues(ints.get(1))[e];
                }
            } else if (word.equals("hull")) {
                v = cutValues(ints.get(0)).clone();
                v[0] = 0;
                for (int round = 0; round < d; round++) {
                    for (int a = 0; a < d; a++) {
                        for (int b = 0; b < d; b++) {
                            int c = plus(a, b);
                            v[c] = Math.min(v[c], v[a] + v[b]);
                        }
                    }
                }
            } else {
                boolean step = word.equals("step");
                int t = step ? ints.get(0) : 1;
                int[] u = new int[s.m];
                for (int i = 0; i < s.m; i++) {
                    u[i] = ints.get(i + (step ? 1 : 0));
                }
                int pivot = t * part(u, goal(-1)) % d;
                for (int e = 0; e < d; e++) {
                    int q = t * part(u, e) % d;
                    v[e] = word.equals("frac") ? q : q <= pivot ? q * (d - pivot) : (d - q) * pivot;
                }
            }
            return v;
        }

        /** D times u times y, by Cramer's rule. */
        int part(int[] u, int e) {
            int[] y = solveTimes(leastRows().get(e));
            int sum = 0;
            for (int i = 0; i < s.m; i++) {
                sum += u[i] * y[i];
            }
            return Math.floorMod(sum, size());
        }

        // ---- the group

        static int det(int[][] b) {
            int n = b.length;
            if (n == 1) {
                return b[0][0];
            }
            int sum = 0;
            for (int j = 0; j < n; j++) {
                int[][] minor = new int[n - 1][n - 1];
                for (int r = 1; r < n; r++) {
                    for (int c = 0, at = 0; c < n; c++) {
                        if (c != j) {
                            minor[r - 1][at++] = b[r][c];
                        }
                    }
                }
                sum += (j % 2 == 0 ? 1 : -1) * b[0][j] * det(minor);
            }
            return sum;
        }

        int size() {
            int d = Math.abs(det(s.basis));
            return d <= 24 ? d : 0;
        }

        /** D times the y by which BASIS times y is a row. */
        int[] solveTimes(int[] row) {
            int[] y = new int[s.m];
            int sign = Integer.signum(det(s.basis));
            for (int j = 0; j < s.m; j++) {
                int[][] b = new int[s.m][];
                for (int r = 0; r < s.m; r++) {
                    b[r] = s.basis[r].clone();
                    b[r][j] = row[r];
                }
                y[j] = sign * det(b);
            }
            return y;
        }

        boolean isMultiple(int[] row) {
            for (int y : solveTimes(row)) {
                if (y % size() != 0) {
                    return false;
                }
            }
            return true;
        }

        /** All least rows: the lexicographically least of each class with numbers 0 .. D-1. */
        List<int[]> leastRows() {
            if (Arrays.deepEquals(s.basis, rowsKey)) {
                return rowsCache;
            }
            List<int[]> rows = new ArrayList<>();
            int d = size();
            int all = 1;
            for (int i = 0; i < s.m; i++) {
                all *= d;
            }
            for (int n = 0; n < all && rows.size() < d; n++) {
                int[] row = new int[s.m];
                for (int i = s.m - 1, rest = n; i >= 0; i--, rest /= d) {
                    row[i] = rest % d;
                }
                boolean isNew = true;
                for (int[] f : rows) {
                    isNew &= !isMultiple(minus(row, f));
                }
                if (isNew) {
                    rows.add(row);
                }
            }
            rowsKey = s.copy().basis;
            rowsCache = rows;
            found.clear();
            sumsCache = new int[d][d];
            for (int[] row : sumsCache) {
                Arrays.fill(row, -1);
            }
            return rows;
        }

        static int[] minus(int[] a, int[] b) {
            int[] c = new int[a.length];
            for (int i = 0; i < a.length; i++) {
                c[i] = a[i] - b[i];
            }
            return c;
        }

        int find(int[] row) {
            List<int[]> l = leastRows();
            return found.computeIfAbsent(Arrays.toString(row), k -> {
                for (int e = 0; e < l.size(); e++) {
                    if (isMultiple(minus(row, l.get(e)))) {
                        return e;
                    }
                }
                throw new IllegalStateException();
            });
        }

        int hermite(int r, int c) {
            if (size() == 0 || !in(r, 0, s.m - 1) || !in(c, 0, s.m - 1)) {
                return -1;
            }
            if (c > r) {
                return 0;
            }
            int[] diagonal = new int[s.m];
            for (int[] l : leastRows()) {
                for (int i = 0; i < s.m; i++) {
                    diagonal[i] = Math.max(diagonal[i], l[i] + 1);
                }
            }
            if (c == r) {
                return diagonal[c];
            }
            int[] unit = new int[s.m];
            unit[c] = diagonal[c];
            // the column is (.. diagonal, rest ..), so the rest is what is to be added to be a multiple
            for (int[] l : leastRows()) {
                boolean ahead = true;
                for (int i = 0; i <= c; i++) {
                    ahead &= l[i] == 0;
                }
                int[] sum = minus(unit, new int[s.m]);
                for (int i = 0; i < s.m; i++) {
                    sum[i] += l[i];
                }
                if (ahead && isMultiple(sum)) {
                    return l[r];
                }
            }
            throw new IllegalStateException();
        }

        int invariant(int i) {
            int d = size();
            if (d == 0 || !in(i, 0, s.m - 1)) {
                return -1;
            }
            for (int a = 1; a <= d; a++) {
                for (int b = a; b <= d; b += a) {
                    for (int c = b; c <= d; c += b) {
                        int[] inv = {a, b, c};
                        boolean fits = a * b * c == d && (s.m > 2 || a == 1) && (s.m > 1 || b == 1);
                        for (int k = 1; k <= d && fits; k++) {
                            int zero = 0;
                            for (int e = 0; e < d; e++) {
                                zero += k % order(e) == 0 ? 1 : 0;
                            }
                            fits = zero == gcd(k, a) * gcd(k, b) * gcd(k, c);
                        }
                        if (fits) {
                            return inv[3 - s.m + i];
                        }
                    }
                }
            }
            throw new IllegalStateException();
        }

        static int gcd(int a, int b) {
            return b == 0 ? Math.abs(a) : gcd(b, a % b);
        }

        int element(int a, int b, int c) {
            int[] row = Arrays.copyOf(new int[] {a, b, c}, s.m);
            for (int v : row) {
                if (!in(v, -9999, 9999)) {
                    return -1;
                }
            }
            return size() == 0 ? -1 : find(row);
        }

        int least(int e, int i) {
            return in(e, 0, size() - 1) && in(i, 0, s.m - 1) ? leastRows().get(e)[i] : -1;
        }

        int plus(int a, int b) {
            if (!in(a, 0, size() - 1) || !in(b, 0, size() - 1)) {
                return -1;
            }
            int[] sum = leastRows().get(a).clone();
            if (sumsCache[a][b] < 0) {
                for (int i = 0; i < s.m; i++) {
                    sum[i] += leastRows().get(b)[i];
                }
                sumsCache[a][b] = find(sum);
            }
            return sumsCache[a][b];
        }

        int order(int e) {
            if (!in(e, 0, size() - 1)) {
                return -1;
            }
            int[] row = new int[s.m];
            for (int n = 1; ; n++) {
                for (int i = 0; i < s.m; i++) {
                    row[i] += leastRows().get(e)[i];
                }
                if (isMultiple(row)) {
                    return n;
                }
            }
        }

        int goal(int k) {
            if (size() == 0) {
                return -1;
            }
            if (k == -1) {
                return find(s.right);
            }
            return in(k, 0, s.columns.size() - 1) ? find(Arrays.copyOf(s.columns.get(k), s.m)) : -1;
        }

        // ---- walks

        /** For each element the shortest walk: cost, steps, times of columns; null without. */
        List<int[]> shortest() {
            int d = size();
            int n = s.columns.size();
            int[] elements = new int[n];
            for (int k = 0; k < n; k++) {
                elements[k] = goal(k);
            }
            int[][][] by = new int[d + 1][d][];
            by[0][0] = new int[2 + n];
            for (int st = 0; st < d; st++) {
                for (int e = 0; e < d; e++) {
                    for (int k = 0; k < n && by[st][e] != null; k++) {
                        int[] w = by[st][e].clone();
                        w[0] += s.columns.get(k)[s.m];
                        w[1]++;
                        w[2 + k]++;
                        int to = plus(e, elements[k]);
                        if (by[st + 1][to] == null || compare(w, by[st + 1][to]) < 0) {
                            by[st + 1][to] = w;
                        }
                    }
                }
            }
            List<int[]> best = new ArrayList<>();
            for (int e = 0; e < d; e++) {
                int[] b = null;
                for (int st = 0; st <= d; st++) {
                    if (by[st][e] != null && (b == null || compare(by[st][e], b) < 0)) {
                        b = by[st][e];
                    }
                }
                best.add(b);
            }
            return best;
        }

        static int compare(int[] a, int[] b) {
            for (int i = 0; i < a.length; i++) {
                if (a[i] != b[i]) {
                    return (i < 2) == (a[i] < b[i]) ? -1 : 1;
                }
            }
            return 0;
        }

        int made() {
            if (size() == 0) {
                return -1;
            }
            int n = 0;
            for (int[] w : shortest()) {
                n += w != null ? 1 : 0;
            }
            return n;
        }

        int[] basics(int[] w) {
            int[] rest = s.right.clone();
            for (int k = 0; k < s.columns.size(); k++) {
                for (int i = 0; i < s.m; i++) {
                    rest[i] -= w[2 + k] * s.columns.get(k)[i];
                }
            }
            int[] y = solveTimes(rest);
            for (int i = 0; i < s.m; i++) {
                if (y[i] % size() != 0) {
                    throw new IllegalStateException();
                }
                y[i] /= size();
            }
            return y;
        }

        boolean isPoint(int[] w) {
            return Arrays.stream(basics(w)).min().getAsInt() >= 0;
        }

        int walk(int what) {
            int[] w = size() == 0 ? null : shortest().get(goal(-1));
            if (w == null) {
                return -1;
            }
            if (what == 8) {
                return isPoint(w) ? 1 : 0;
            }
            return in(what, 0, w.length - 1) ? w[what] : -1;
        }

        int basic(int i) {
            int[] w = size() == 0 ? null : shortest().get(goal(-1));
            return w == null || !in(i, 0, s.m - 1) ? Integer.MIN_VALUE : basics(w)[i];
        }

        int far(int e, int what) {
            if (!in(e, 0, size() - 1) || !in(what, 0, 1)) {
                return -1;
            }
            int[] w = shortest().get(e);
            return w == null ? -1 : w[what];
        }

        /** All ways to take columns so often at most, that are walks. */
        List<int[]> walksOf(int most) {
            List<int[]> all = new ArrayList<>();
            int[] elements = new int[s.columns.size()];
            for (int k = 0; k < elements.length; k++) {
                elements[k] = goal(k);
            }
            int d = size();
            int[][] sums = new int[d][d];
            for (int a = 0; a < d; a++) {
                for (int b = 0; b < d; b++) {
                    sums[a][b] = plus(a, b);
                }
            }
            extend(all, new int[2 + elements.length], 0, most, elements, sums);
            int g = goal(-1);
            all.removeIf(w -> w[w.length - 1] != g);
            all.replaceAll(w -> Arrays.copyOf(w, w.length - 1));
            return all;
        }

        /** Each way with its element behind it. */
        void extend(List<int[]> all, int[] w, int k, int most, int[] elements, int[][] sums) {
            if (k == elements.length) {
                int sum = 0;
                for (int i = 0; i < k; i++) {
                    for (int t = 0; t < w[2 + i]; t++) {
                        sum = sums[sum][elements[i]];
                    }
                }
                int[] way = Arrays.copyOf(w, w.length + 1);
                way[w.length] = sum;
                all.add(way);
                return;
            }
            for (int t = 0; t <= most; t++) {
                int[] more = w.clone();
                more[0] += t * s.columns.get(k)[s.m];
                more[1] += t;
                more[2 + k] = t;
                extend(all, more, k + 1, most - t, elements, sums);
            }
        }

        int whole(int what) {
            if (size() == 0 || what < 0 || what > 7) {
                return -1;
            }
            int[] best = null;
            for (int[] w : walksOf(8)) {
                if (isPoint(w) && (best == null || compare(w, best) < 0)) {
                    best = w;
                }
            }
            return best != null && what < best.length ? best[what] : -1;
        }

        // ---- cuts

        boolean isCut(int k) {
            return in(k, 0, s.cuts.size() - 1);
        }

        int[] cutValues(int k) {
            return (int[]) s.cuts.get(k)[1];
        }

        int scale(int k) {
            return cutValues(k)[goal(-1)];
        }

        int value(int k, int e) {
            if (!isCut(k) || !in(e, -1, size() - 1)) {
                return -1;
            }
            return e == -1 ? scale(k) : cutValues(k)[e];
        }

        int coefficient(int k, int c) {
            return isCut(k) && in(c, 0, s.columns.size() - 1) ? cutValues(k)[goal(c)] : -1;
        }

        int asks(int k, int what) {
            if (!isCut(k) || !in(what, 0, 9)) {
                return -1;
            }
            int[] v = cutValues(k);
            List<Integer> bad = bad(v);
            switch (what) {
                case 0: return bad.size();
                case 1: return bad.isEmpty() ? -1 : bad.get(0);
                case 2: return subadditive(v) ? 1 : 0;
                case 3: return symmetric(v) ? 1 : 0;
                case 4: return holds(k) ? 1 : 0;
                case 5: return rank(v);
                case 6: return facet(v) ? 1 : 0;
                case 7: return equations(v).size() - 1;
                case 8: return leastSum(k);
                default:
                    int n = 0;
                    for (int[] w : walksOf(6)) {
                        n += taken(v, Arrays.copyOfRange(w, 2, 8)) == v[goal(-1)] ? 1 : 0;
                    }
                    return n;
            }
        }

        List<Integer> bad(int[] v) {
            List<Integer> bad = new ArrayList<>();
            for (int a = 0; a < v.length; a++) {
                for (int b = a; b < v.length; b++) {
                    if (v[a] + v[b] < v[plus(a, b)]) {
                        bad.add(100 * a + b);
                    }
                }
            }
            return bad;
        }

        boolean subadditive(int[] v) {
            return v[0] == 0 && bad(v).isEmpty();
        }

        boolean symmetric(int[] v) {
            for (int a = 0; a < v.length; a++) {
                int rest = find(minus(s.right, leastRows().get(a)));
                if (v[a] + v[rest] != v[goal(-1)]) {
                    return false;
                }
            }
            return true;
        }

        /** The equations of pairs, and behind them that of GOAL. */
        List<long[]> equations(int[] v) {
            List<long[]> rows = new ArrayList<>();
            for (int a = 1; a < v.length; a++) {
                for (int b = a; b < v.length; b++) {
                    int c = plus(a, b);
                    if (v[a] + v[b] == v[c]) {
                        long[] row = new long[v.length];
                        row[a] += 1;
                        row[b] += 1;
                        row[c] += P - 1;
                        row[0] = 0;
                        rows.add(row);
                    }
                }
            }
            long[] last = new long[v.length];
            last[goal(-1)] = 1;
            last[0] = 0;
            rows.add(last);
            return rows;
        }

        int rank(int[] v) {
            List<long[]> rows = equations(v);
            int rank = 0;
            for (int c = v.length - 1; c >= 1; c--) {
                int at = -1;
                for (int i = rank; i < rows.size(); i++) {
                    at = rows.get(i)[c] % P != 0 ? i : at;
                }
                if (at < 0) {
                    continue;
                }
                long[] pivot = rows.get(at);
                rows.set(at, rows.get(rank));
                rows.set(rank, pivot);
                long inverse = java.math.BigInteger.valueOf(pivot[c])
                    .modInverse(java.math.BigInteger.valueOf(P)).longValue();
                for (int i = rank + 1; i < rows.size(); i++) {
                    long times = rows.get(i)[c] * inverse % P;
                    for (int j = 0; j < v.length && times != 0; j++) {
                        rows.get(i)[j] = Math.floorMod(rows.get(i)[j] - times * pivot[j], P);
                    }
                }
                rank++;
            }
            return rank;
        }

        boolean facet(int[] v) {
            return subadditive(v) && symmetric(v) && rank(v) == v.length - 1;
        }

        int leastSum(int k) {
            int d = size();
            int[] best = new int[d];
            Arrays.fill(best, Integer.MAX_VALUE / 2);
            best[0] = 0;
            for (int round = 0; round < d; round++) {
                int[] next = best.clone();
                for (int e = 0; e < d; e++) {
                    for (int c = 0; c < s.columns.size(); c++) {
                        int to = plus(e, goal(c));
                        next[to] = Math.min(next[to], best[e] + coefficient(k, c));
                    }
                }
                best = next;
            }
            int sum = best[goal(-1)];
            return sum >= Integer.MAX_VALUE / 2 ? -1 : sum;
        }

        boolean holds(int k) {
            return leastSum(k) == -1 || leastSum(k) >= scale(k);
        }

        boolean fits(int[] t) {
            for (int k = 0; k < s.columns.size(); k++) {
                if (!in(t[k], 0, 99)) {
                    return false;
                }
            }
            return true;
        }

        int taken(int[] v, int[] t) {
            int sum = 0;
            for (int k = 0; k < s.columns.size(); k++) {
                sum += t[k] * v[goal(k)];
            }
            return sum;
        }

        int depth(int k, int[] t) {
            return isCut(k) && fits(t) ? scale(k) - taken(cutValues(k), t) : Integer.MIN_VALUE;
        }

        boolean isOver(int a, int b) {
            if (!isCut(a) || !isCut(b)) {
                return false;
            }
            boolean below = false;
            for (int k = 0; k < s.columns.size(); k++) {
                long one = (long) coefficient(a, k) * scale(b);
                long two = (long) coefficient(b, k) * scale(a);
                if (one > two) {
                    return false;
                }
                below |= one < two;
            }
            return below;
        }

        int zeros(int k, int what) {
            if (!isCut(k) || !in(what, 0, 1)) {
                return -1;
            }
            int[] v = cutValues(k);
            int bits = 0;
            boolean closed = v[0] == 0;
            for (int a = 0; a < v.length; a++) {
                bits += v[a] == 0 ? 1 << a : 0;
                for (int b = 0; b < v.length; b++) {
                    closed &= v[a] != 0 || v[b] != 0 || v[plus(a, b)] == 0;
                }
            }
            return what == 0 ? bits : closed ? 1 : 0;
        }

        long[] boundOf(int k) {
            long[] best = null;
            for (int c = 0; c < s.columns.size(); c++) {
                long low = coefficient(k, c);
                long up = (long) s.columns.get(c)[s.m] * scale(k);
                if (low > 0 && (best == null || up * best[1] < best[0] * low)) {
                    int g = gcd((int) up, (int) low);
                    best = new long[] {up / g, low / g};
                }
            }
            return best;
        }

        int bound(int k, int what) {
            if (!isCut(k) || !in(what, 0, 1) || boundOf(k) == null) {
                return -1;
            }
            return (int) boundOf(k)[what];
        }

        int tightest() {
            int best = -1;
            for (int k = 0; k < s.cuts.size(); k++) {
                long[] b = boundOf(k);
                if (b != null && holds(k)
                    && (best < 0 || b[0] * boundOf(best)[1] > boundOf(best)[0] * b[1])) {
                    best = k;
                }
            }
            return best;
        }

        // ---- the table

        List<int[]> functions() {
            String key = Arrays.deepToString(s.basis) + Arrays.toString(s.right);
            if (key.equals(tableKey)) {
                return tableCache;
            }
            int d = size();
            TreeSet<int[]> all = new TreeSet<>((Comparator<int[]>) Arrays::compare);
            int many = d == 0 ? 0 : 1;
            for (int i = 0; i < s.m; i++) {
                many *= d;
            }
            int g = goal(-1);
            int[][] ys = new int[d][];
            for (int e = 0; e < d; e++) {
                ys[e] = solveTimes(leastRows().get(e));
            }
            for (int n = 0; n < many; n++) {
                int[] parts = new int[d];
                for (int e = 0; e < d; e++) {
                    for (int i = 0, rest = n; i < s.m; i++, rest /= d) {
                        parts[e] += rest % d * ys[e][i];
                    }
                    parts[e] = Math.floorMod(parts[e], d);
                }
                int pivot = parts[g];
                int common = 0;
                int[] v = new int[d];
                for (int e = 0; e < d; e++) {
                    v[e] = parts[e] <= pivot ? parts[e] * (d - pivot) : (d - parts[e]) * pivot;
                    common = gcd(common, v[e]);
                }
                if (pivot != 0) {
                    for (int e = 0; e < d; e++) {
                        v[e] /= common;
                    }
                    all.add(v);
                }
            }
            tableKey = key;
            tableCache = new ArrayList<>(all);
            return tableCache;
        }

        int table(int what) {
            if (size() == 0 || !in(what, 0, 1)) {
                return -1;
            }
            int n = 0;
            for (int[] v : functions()) {
                n += what == 0 || facet(v) ? 1 : 0;
            }
            return n;
        }

        int tabled(int i, int e) {
            if (!in(i, 0, functions().size() - 1) || !in(e, -1, size() - 1)) {
                return -1;
            }
            int[] v = functions().get(i);
            return e == -1 ? (facet(v) ? 1 : 0) : v[e];
        }

        int shot(int e) {
            int best = -1;
            double least = 0;
            for (int i = 0; i < functions().size() && in(e, 0, size() - 1); i++) {
                int[] v = functions().get(i);
                double at = (double) v[e] / v[goal(-1)];
                if (best < 0 || at < least - 1e-9) {
                    best = i;
                    least = at;
                }
            }
            return best;
        }

        int deepest(int[] t) {
            int best = -1;
            double most = 0;
            for (int i = 0; i < functions().size() && fits(t); i++) {
                int[] v = functions().get(i);
                double scale = v[goal(-1)];
                double at = (scale - taken(v, t)) / scale;
                if (best < 0 || at > most + 1e-9) {
                    best = i;
                    most = at;
                }
            }
            return best;
        }

        int middle(int k) {
            if (!isCut(k)) {
                return -1;
            }
            List<int[]> f = functions();
            int g = goal(-1);
            for (int i = 0; i < f.size(); i++) {
                for (int j = i + 1; j < f.size(); j++) {
                    boolean all = true;
                    for (int e = 0; e < size(); e++) {
                        double sum = (double) f.get(i)[e] / f.get(i)[g] + (double) f.get(j)[e] / f.get(j)[g];
                        all &= Math.abs(sum - 2.0 * cutValues(k)[e] / scale(k)) < 1e-10;
                    }
                    if (all) {
                        return 100 * i + j;
                    }
                }
            }
            return -1;
        }

        int count(int what) {
            int[] first = {s.m, s.columns.size(), s.cuts.size(), size(), history.size(), tape.size(),
                refused[1], refused[2], refused[4], refused[5], refused[6]};
            if (in(what, 0, 10)) {
                return first[what];
            }
            if (in(what, 11, 10 + s.m)) {
                return s.right[what - 11];
            }
            int r = (what - 14) / 3;
            int c = (what - 14) % 3;
            return what >= 14 && r < s.m && c < s.m ? s.basis[r][c] : -1;
        }
    }
}
