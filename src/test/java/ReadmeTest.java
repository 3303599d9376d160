import java.io.IOException;
import java.lang.reflect.Method;
import java.nio.file.Files;
import java.nio.file.Path;
import java.util.Set;
import java.util.TreeSet;
import java.util.regex.Matcher;
import java.util.regex.Pattern;

/** README.md shows every call, and each one answers the number that stands behind it. */
public final class ReadmeTest {
    private static final Pattern SHOWN = Pattern.compile("table\\.(\\w+)\\((.*)\\);\\s*// (-?\\d+)(:.*)?");
    private static final int MOST_CALLS = 512;

    private static int wrong;

    private static void due(String line, boolean so) {
        if (!so) {
            wrong++;
            System.out.println(line);
        }
    }

    public static void main(String[] args) throws IOException, ReflectiveOperationException {
        Set<String> unshown = new TreeSet<>();
        for (Method method : NineHeaps.class.getDeclaredMethods()) {
            if (method.toString().startsWith("public")) {
                unshown.add(method.getName());
            }
        }
        NineHeaps table = new NineHeaps();
        int calls = 0;
        for (String line : Files.readAllLines(Path.of("README.md"))) {
            if (line.startsWith("table.")) {
                Matcher shown = SHOWN.matcher(line);
                boolean isShown = shown.matches();
                due("a call without its answer: " + line, isShown);
                if (isShown) {
                    unshown.remove(shown.group(1));
                    String got = answer(table, shown.group(1), shown.group(2));
                    due(line + " .. answered " + got, got.equals(shown.group(3)));
                    calls++;
                }
            }
        }
        due("not shown: " + unshown, unshown.isEmpty());
        due("more calls of one object than promised: " + calls, calls <= MOST_CALLS);
        System.out.println(wrong == 0 ? "all answers are as due" : wrong + " are not as due");
        if (wrong != 0) {
            System.exit(1);
        }
    }

    private static String answer(NineHeaps table, String name, String told) throws ReflectiveOperationException {
        String[] words = told.isEmpty() ? new String[0] : told.split(", ");
        Class<?>[] types = new Class<?>[words.length];
        Object[] numbers = new Object[words.length];
        for (int i = 0; i < words.length; i++) {
            types[i] = int.class;
            numbers[i] = words[i].startsWith("'") ? words[i].charAt(1) : Integer.parseInt(words[i]);
        }
        return NineHeaps.class.getMethod(name, types).invoke(table, numbers).toString();
    }
}
