import java.io.IOException;
import java.lang.reflect.Constructor;
import java.lang.reflect.Field;
import java.lang.reflect.InvocationTargetException;
import java.lang.reflect.Method;
import java.lang.reflect.Modifier;
import java.nio.file.Files;
import java.nio.file.Path;
import java.util.ArrayList;
import java.util.Arrays;
import java.util.HashSet;
import java.util.List;
import java.util.Random;
import java.util.Set;
import java.util.TreeSet;
import java.util.regex.Matcher;
import java.util.regex.Pattern;

/** The face of the document and no more, the rules of the language, and that no call ever throws. */
public final class CornerCutsFace {
    private static final String FACE = "int rows(int m);int basis(int row, int column, int v);"
        + "int right(int row, int v);int column(int a, int b, int c, int cost);int cost(int column, int v);"
        + "int drop(int column);int feed(int a, int b, int c, int d, int e);int end(int n);int cut();int fault();"
        + "int listing(int cut);int tape(int i);int uncut();int undo();int image(int k);int back(int k);"
        + "int determinant();int hermite(int row, int column);int invariant(int i);"
        + "int element(int a, int b, int c);int least(int element, int i);int plus(int a, int b);"
        + "int order(int element);int goal(int column);int made();int walk(int what);int basic(int i);"
        + "int far(int element, int what);int whole(int what);int value(int cut, int element);"
        + "int coefficient(int cut, int column);int asks(int cut, int what);"
        + "int depth(int cut, int a, int b, int c, int d, int e, int f);boolean isOver(int cut, int other);"
        + "int table(int what);int tabled(int i, int element);int zeros(int cut, int what);"
        + "int bound(int cut, int what);int tightest();int shot(int element);"
        + "int deepest(int a, int b, int c, int d, int e, int f);int middle(int cut);int count(int what);"
        + "int status();";
    private static final String[] FORBIDDEN = {"\\bthrow\\b", "\\btry\\b", "\\bcatch\\b", "\\bassert\\b",
        "\\bsynchronized\\b", "->", "::", "\\binstanceof\\b", "Exact\\b", "\\bthrows\\b", "\\bnative\\b",
        "\\bpublic\\s+static\\s+(?!final)", "\\bprotected\\b", "\\bvolatile\\b", "\\btransient\\b",
        "\\bSystem\\.(?!arraycopy)", "\\bimport\\b(?! java\\.util\\.Arrays;)", "\\bpackage\\b", "[^\\x00-\\x7f]",
        "\\bstatic\\s*\\{", "\\bdouble\\b", "\\bfloat\\b", "\\bRandom\\b", "\\bThread\\b"};
    private static int wrong = 0;

    private static void fail(String why) {
        wrong++;
        System.out.println(why);
    }

    public static void main(String[] args) throws Exception {
        checkFace();
        checkNames();
        checkSource();
        checkExtremes();
        checkSameAnswers();
        System.out.println(wrong == 0 ? "the face is as due" : wrong + " faults of the face");
        if (wrong != 0) {
            System.exit(1);
        }
    }

    private static String written(Method m) {
        return m.getReturnType() + " " + m.getName() + "/" + m.getParameterCount();
    }

    private static Set<String> dueMethods() {
        Set<String> due = new TreeSet<>();
        for (String line : FACE.split(";")) {
            String name = line.substring(0, line.indexOf('('));
            String inside = line.substring(line.indexOf('(') + 1, line.indexOf(')'));
            due.add(name + "/" + (inside.isEmpty() ? 0 : inside.split(",").length));
        }
        return due;
    }

    private static void checkFace() {
        Class<?> c = CornerCuts.class;
        if (c.getModifiers() != (Modifier.PUBLIC | Modifier.FINAL)) {
            fail("the class is not public and final alone");
        }
        Set<String> found = new TreeSet<>();
        for (Method m : c.getDeclaredMethods()) {
            if (!Modifier.isPrivate(m.getModifiers())) {
                found.add(written(m));
                if (m.getModifiers() != Modifier.PUBLIC || !Arrays.stream(m.getParameterTypes()).allMatch(t -> t == int.class)) {
                    fail("not a plain public method: " + m);
                }
            }
        }
        if (!found.equals(dueMethods())) {
            fail("methods are " + found);
        }
        Constructor<?>[] made = c.getDeclaredConstructors();
        if (made.length != 1 || made[0].getParameterCount() != 0 || made[0].getModifiers() != Modifier.PUBLIC) {
            fail("the constructor is another one");
        }
        for (Field f : c.getDeclaredFields()) {
            boolean isNone = f.getName().equals("NONE");
            if (isNone == Modifier.isPrivate(f.getModifiers())) {
                fail("field " + f);
            }
            if (Modifier.isStatic(f.getModifiers()) && !Modifier.isFinal(f.getModifiers())) {
                fail("static state " + f);
            }
        }
    }

    private static void checkNames() {
        Set<String> names = new HashSet<>();
        for (String d : dueMethods()) {
            names.add(d.substring(d.indexOf(' ') + 1, d.indexOf('/')));
        }
        List<Class<?>> all = new ArrayList<>(Arrays.asList(CornerCuts.class.getDeclaredClasses()));
        if (all.size() + 1 > 12) {
            fail("more than twelve classes");
        }
        all.add(CornerCuts.class);
        for (Class<?> c : all) {
            int fields = 0;
            for (Field f : c.getDeclaredFields()) {
                fields += Modifier.isStatic(f.getModifiers()) ? 0 : 1;
            }
            if (fields > 20) {
                fail("more than twenty fields: " + c);
            }
            for (Method m : c.getDeclaredMethods()) {
                if (!Modifier.isPublic(m.getModifiers()) && names.contains(m.getName())) {
                    fail("a private method bears the name of a public one: " + m);
                }
                if (m.getParameterCount() > 7) {
                    fail("more than seven parameters: " + m);
                }
            }
        }
    }

    private static void checkSource() throws IOException {
        String source = Files.readString(Path.of("src/main/java/CornerCuts.java"));
        String code = source.replaceAll("(?s)/\\*.*?\\*/", "").replaceAll("//[^\n]*", "");
        for (String f : FORBIDDEN) {
            Matcher m = Pattern.compile(f).matcher(code);
            if (m.find()) {
                fail("forbidden: " + m.group());
            }
        }
        int begun = -1;
        String[] lines = source.split("\n");
        for (int i = 0; i < lines.length; i++) {
            if (lines[i].matches(" {4,8}(public|private)[^=;]*\\{")) {
                begun = lines[i].contains(" class ") ? -1 : i;
            }
            if (begun >= 0 && lines[i].matches(" {4,8}\\}") && i - begun > 60) {
                fail("longer than sixty lines: " + lines[begun]);
            }
        }
    }

    /** Calls of all methods with numbers at all edges, in all states that these make. */
    private static void checkExtremes() throws IllegalAccessException {
        int[] edges = {Integer.MIN_VALUE, Integer.MIN_VALUE + 1, -10000, -100, -10, -9, -2, -1, 0, 1, 2, 3, 4, 5, 6, 7, 8,
            9, 10, 11, 13, 14, 22, 23, 24, 25, 98, 99, 100, 399, 400, 9999, 10000, 0x676D6931, 0x746F6C64,
            Integer.MAX_VALUE - 1, Integer.MAX_VALUE};
        List<Method> methods = new ArrayList<>();
        for (Method m : CornerCuts.class.getDeclaredMethods()) {
            if (Modifier.isPublic(m.getModifiers())) {
                methods.add(m);
            }
        }
        methods.sort((a, b) -> written(a).compareTo(written(b)));
        Random r = new Random(5);
        for (int run = 0; run < 400; run++) {
            CornerCuts x = new CornerCuts();
            for (int call = 0; call < 512; call++) {
                Method m = methods.get(r.nextInt(methods.size()));
                Object[] given = new Object[m.getParameterCount()];
                for (int i = 0; i < given.length; i++) {
                    boolean isSmall = r.nextInt(3) > 0;
                    given[i] = isSmall ? r.nextInt(4) - 1 : edges[r.nextInt(edges.length)];
                }
                try {
                    m.invoke(x, given);
                } catch (InvocationTargetException e) {
                    fail(m.getName() + Arrays.toString(given) + " threw " + e.getCause());
                    return;
                }
            }
        }
    }

    /** Objects do not touch one another. */
    private static void checkSameAnswers() {
        CornerCuts x = new CornerCuts();
        CornerCuts y = new CornerCuts();
        x.rows(1);
        x.basis(0, 0, 5);
        y.rows(1);
        y.basis(0, 0, 7);
        if (x.determinant() != 5 || y.determinant() != 7 || x.count(3) != 5) {
            fail("one object touches another");
        }
    }
}
