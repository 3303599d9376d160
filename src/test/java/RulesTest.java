import java.io.IOException;
import java.lang.reflect.Constructor;
import java.lang.reflect.Field;
import java.lang.reflect.Method;
import java.lang.reflect.Modifier;
import java.nio.file.Files;
import java.nio.file.Path;
import java.util.Arrays;
import java.util.List;
import java.util.Set;
import java.util.TreeSet;
import java.util.regex.Matcher;
import java.util.regex.Pattern;

/** Those rules of ../shared/LANGUAGE.md that can be seen from outside: the face, words, lengths, numbers of things. */
public final class RulesTest {
    private static final String FACE = "count(int) set(int,int,int) heap(int,int) feed(int,int,int,int,int,int) text() force(int) "
        + "asks(int,int,int) walker(int,int,int) begin(int,int) told(int,int) run(int,int) one(int,int,int) height(int,int,int) "
        + "go(int) off(int) find(int,int) best(int) start(int,int) sit(int) worth(int) more(int) stretch(int) slowest() "
        + "judge(int,int) when(int,int) sticks(int,int,int) kinds(int,int,int) laws(int,int) film(int,int) drawn(int,int) "
        + "odds(int,int,int,int) image() back() sheet(int,int,int) cell(int,int,int) copy(int,int,int,int,int) "
        + "walkersBy(int,int,int,int) taken(int,int)";
    private static final int MOST_LINES = 60, MOST_CLASSES = 12, MOST_FIELDS = 20, MOST_PARAMETERS = 7;

    private static int wrong;

    private static void due(String what, boolean so) {
        if (!so) {
            wrong++;
            System.out.println(what);
        }
    }

    public static void main(String[] args) throws IOException {
        theFace();
        theClassesInside();
        String source = Files.readString(Path.of("src/main/java/NineHeaps.java"));
        words(source);
        lengths(source);
        System.out.println(wrong == 0 ? "the rules are kept" : wrong + " rules are broken");
        if (wrong != 0) {
            System.exit(1);
        }
    }

    private static String signature(Method method) {
        String types = Arrays.toString(method.getParameterTypes()).replaceAll("[\\[\\] ]", "");
        return method.getName() + "(" + types + ")";
    }

    private static void theFace() {
        Set<String> open = new TreeSet<>();
        Set<String> names = new TreeSet<>();
        for (Method method : NineHeaps.class.getDeclaredMethods()) {
            if (!Modifier.isPrivate(method.getModifiers())) {
                open.add(signature(method));
                names.add(method.getName());
                boolean isLong = method.getReturnType() == long.class;
                due(method + " returns", isLong == method.getName().equals("odds") && (isLong || method.getReturnType() == int.class));
                due(method + " is public and not static", (method.getModifiers() & (Modifier.PUBLIC | Modifier.STATIC)) == Modifier.PUBLIC);
            }
        }
        due("the face has just what the document tells: " + open, open.equals(new TreeSet<>(List.of(FACE.split(" ")))));
        for (Field field : NineHeaps.class.getDeclaredFields()) {
            boolean isTold = List.of("NONE", "BAD", "STATE", "FULL", "NO").contains(field.getName());
            due(field + " is told", isTold == Modifier.isPublic(field.getModifiers()) && isTold != Modifier.isPrivate(field.getModifiers()));
        }
        for (Constructor<?> each : NineHeaps.class.getDeclaredConstructors()) {
            due(each + " is told", Modifier.isPublic(each.getModifiers()) && each.getParameterCount() == 0);
        }
        due("the class is public and final", (NineHeaps.class.getModifiers() & (Modifier.PUBLIC | Modifier.FINAL)) == (Modifier.PUBLIC | Modifier.FINAL));
        for (Class<?> inside : allClasses()) {
            for (Method method : inside.getDeclaredMethods()) {
                due("no private method bears a public one's name: " + method,
                    !Modifier.isPrivate(method.getModifiers()) || !names.contains(method.getName()));
            }
        }
    }

    private static List<Class<?>> allClasses() {
        List<Class<?>> all = new java.util.ArrayList<>(List.of(NineHeaps.class.getDeclaredClasses()));
        all.add(NineHeaps.class);
        return all;
    }

    private static void theClassesInside() {
        due("so many classes", allClasses().size() <= MOST_CLASSES);
        for (Class<?> each : allClasses()) {
            int fields = 0;
            for (Field field : each.getDeclaredFields()) {
                due("static " + field + " is final", !Modifier.isStatic(field.getModifiers()) || Modifier.isFinal(field.getModifiers()));
                fields += Modifier.isStatic(field.getModifiers()) ? 0 : 1;
            }
            due("so many fields of " + each, fields <= MOST_FIELDS);
            due(each + " is static and not public", each == NineHeaps.class
                || Modifier.isStatic(each.getModifiers()) && !Modifier.isPublic(each.getModifiers()));
            for (Method method : each.getDeclaredMethods()) {
                due("so many parameters of " + method, method.getParameterCount() <= MOST_PARAMETERS);
            }
        }
    }

    private static void words(String source) {
        String bare = source.replaceAll("(?s)/\\*.*?\\*/", "").replaceAll("//[^\n]*", "").replaceAll("\"[^\"\n]*\"", "\"\"");
        for (String word : new String[] {"finally", "synchronized", "assert", "package", "Object", "System\\.(?!arraycopy)\\w+",
            "Math\\.\\w*(?:Exact|random)", "Arrays\\.(?!fill|copyOf)\\w+", "->", "::", "native", "transient", "volatile",
            "boolean equals", "int hashCode", "String toString", "Exception", "Throwable", "Error", "NullPointerException",
            "ClassCastException", "ArrayIndexOutOfBoundsException", "ArrayStoreException", "NegativeArraySizeException"}) {
            Matcher found = Pattern.compile("(?<!\\w)" + word + "(?!\\w)").matcher(bare);
            due("the source has " + word, !found.find());
        }
        Matcher imports = Pattern.compile("import ([\\w.]+);").matcher(bare);
        while (imports.find()) {
            due("import " + imports.group(1), List.of("Arrays", "ArrayList", "List", "Iterator", "NoSuchElementException")
                .contains(imports.group(1).replace("java.util.", "")));
        }
        for (int i = 0; i < source.length(); i++) {
            due("a sign at " + i, source.charAt(i) > 0 && source.charAt(i) < 128);
        }
    }

    /** A method begins with an indented line that ends in ") {" and ends with a brace as far in. */
    private static void lengths(String source) {
        String[] lines = source.split("\n");
        for (int i = 0; i < lines.length; i++) {
            Matcher head = Pattern.compile("^( {4}| {8})[A-Za-z].*\\) \\{$").matcher(lines[i]);
            if (head.find() && !lines[i].trim().matches("(if|for|while|switch|else) .*")) {
                int end = i;
                while (!lines[end].equals(head.group(1) + "}")) {
                    end++;
                }
                due("so many lines: " + lines[i], end - i < MOST_LINES);
            }
        }
    }
}
