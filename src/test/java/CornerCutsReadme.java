import java.lang.reflect.Method;
import java.lang.reflect.Modifier;
import java.nio.file.Files;
import java.nio.file.Path;
import java.util.Arrays;
import java.util.regex.Matcher;
import java.util.regex.Pattern;

/** What README.md shows is what the class answers, and it names each call. */
public final class CornerCutsReadme {
    private static final Pattern CALL = Pattern.compile("    x\\.(\\w+)\\(([^)]*)\\); +// (-?\\d+): .*");
    private static int wrong = 0;

    private static void fail(String why) {
        wrong++;
        System.out.println(why);
    }

    public static void main(String[] args) throws Exception {
        String page = Files.readString(Path.of("README.md"));
        CornerCuts x = new CornerCuts();
        int calls = 0;
        for (String line : page.split("\n")) {
            Matcher m = CALL.matcher(line);
            if (m.matches()) {
                calls++;
                checkCall(x, line, m);
            } else if (line.startsWith("    x.")) {
                fail("no answer is told: " + line);
            }
        }
        if (calls == 0) {
            fail("README.md shows no call");
        }
        for (Method m : CornerCuts.class.getDeclaredMethods()) {
            if (Modifier.isPublic(m.getModifiers()) && !page.contains("`" + m.getName() + "`")) {
                fail("README.md does not name " + m.getName());
            }
        }
        System.out.println(wrong == 0 ? "the page is as due" : wrong + " faults of the page");
        if (wrong != 0) {
            System.exit(1);
        }
    }

    private static void checkCall(CornerCuts x, String line, Matcher m) throws Exception {
        String inside = m.group(2).trim();
        String[] given = inside.isEmpty() ? new String[0] : inside.split(", *");
        Class<?>[] types = new Class<?>[given.length];
        Arrays.fill(types, int.class);
        Object[] numbers = new Object[given.length];
        for (int i = 0; i < given.length; i++) {
            numbers[i] = given[i].equals("CornerCuts.NONE") ? Integer.valueOf(CornerCuts.NONE) : Integer.decode(given[i]);
        }
        Object got = CornerCuts.class.getMethod(m.group(1), types).invoke(x, numbers);
        if (!got.toString().equals(m.group(3))) {
            fail("it answers " + got + ": " + line);
        }
    }
}
