import java.io.IOException;
import java.lang.reflect.Field;
import java.lang.reflect.Method;
import java.lang.reflect.Modifier;
import java.nio.file.Files;
import java.nio.file.Path;
import java.util.Arrays;
import java.util.Set;
import java.util.TreeSet;
import java.util.regex.Matcher;
import java.util.regex.Pattern;

/** The document's face, no more and no less, and what of LANGUAGE.md can be seen from outside. */
public final class FormTest {
    private static final String[] FACE = {"feed 5", "trim 1", "again 0", "out 1", "piece 0", "book 1", "about 2",
        "tell 2", "isOf 2", "pack 1", "greedy 1", "bits 0", "part 2", "rest 1", "unpack 0", "fault 0", "sample 0",
        "forget 0", "train 2", "gained 1", "price 1", "offer 1", "send 1", "over 1", "deliver 1", "lose 1",
        "twice 1", "message 2", "latest 0", "count 1"};
    private static final String[] RULED_OUT = {"throw", "throws", "try", "catch", "synchronized", "assert", "static \\{",
        "->", "::", "equals\\(", "hashCode", "toString", "Random", "System\\.(?!arraycopy)", "Thread", "Exact\\(",
        "Integer\\.[A-Z]", "native", "volatile", "protected"};

    private static int wrong = 0;

    private static void due(String what, boolean holds) {
        if (!holds) {
            wrong++;
            System.out.println(what);
        }
    }

    private static boolean visible(int modifiers) {
        return !Modifier.isPrivate(modifiers);
    }

    private static void face() {
        Class<?> face = ShortPost.class;
        due("public final", Modifier.isPublic(face.getModifiers()) && Modifier.isFinal(face.getModifiers()));
        due("one constructor", face.getDeclaredConstructors().length == 1);
        due("a public one, of nothing", face.getConstructors().length == 1
                && face.getConstructors()[0].getParameterCount() == 0);
        Set<String> methods = new TreeSet<>();
        for (Method method : face.getDeclaredMethods()) {
            if (method.isSynthetic() || !visible(method.getModifiers())) continue;
            due(method + " is public, not static, of ints", method.getModifiers() == Modifier.PUBLIC
                    && method.getReturnType() == int.class
                    && Arrays.stream(method.getParameterTypes()).allMatch(type -> type == int.class));
            methods.add(method.getName() + " " + method.getParameterCount());
        }
        due("the methods are " + methods, methods.equals(new TreeSet<>(Arrays.asList(FACE))));
        Set<String> fields = new TreeSet<>();
        for (Field field : face.getDeclaredFields()) {
            if (visible(field.getModifiers())) fields.add(Modifier.toString(field.getModifiers()) + " " + field.getName());
        }
        Set<String> constants = new TreeSet<>();
        for (String name : new String[] {"BAD", "NO", "FULL", "NONE"}) constants.add("public static final " + name);
        due("the fields are " + fields, fields.equals(constants));
    }

    private static void classesInside() {
        Set<String> names = new TreeSet<>();
        for (String method : FACE) names.add(method.substring(0, method.indexOf(' ')));
        Class<?>[] inside = ShortPost.class.getDeclaredClasses();
        due("at most some twelve classes", inside.length < 12);
        for (Class<?> one : inside) {
            int modifiers = one.getModifiers();
            due(one + " is static, and not public", Modifier.isStatic(modifiers) && !Modifier.isPublic(modifiers));
            int fields = 0;
            for (Field field : one.getDeclaredFields()) {
                if (!Modifier.isStatic(field.getModifiers())) fields++;
                else due(field + " is final", Modifier.isFinal(field.getModifiers()));
            }
            due(one + " has " + fields + " fields", fields <= 20);
            for (Method method : one.getDeclaredMethods()) {
                due(method + " bears a public name", !names.contains(method.getName()));
                due(method + " takes at most seven", method.getParameterCount() <= 7);
            }
        }
    }

    private static void source() throws IOException {
        String text = Files.readString(Path.of("src/main/java/ShortPost.java"));
        String code = text.replaceAll("(?s)/\\*.*?\\*/", "").replaceAll("//[^\n]*", "");
        for (String ruledOut : RULED_OUT) {
            String whole = Character.isLetter(ruledOut.charAt(0)) ? "\\b" + ruledOut : ruledOut;
            if (ruledOut.matches("[a-z]+")) whole += "\\b";
            Matcher found = Pattern.compile(whole).matcher(code);
            due("ruled out: " + ruledOut, !found.find());
        }
        Matcher imports = Pattern.compile("import ([^;]*);").matcher(code);
        while (imports.find()) due("import " + imports.group(1), imports.group(1).equals("java.util.Arrays"));
        Matcher method = Pattern.compile("(?m)^(    |        )\\S[^;=\n]*\\) \\{\n((?:\\1    .*\n|\n)*)\\1\\}").matcher(code);
        int methods = 0;
        while (method.find()) {
            methods++;
            int lines = method.group().split("\n").length;
            due("a method of " + lines + " lines: " + method.group().split("\n")[0], lines <= 60);
        }
        due("methods found: " + methods, methods > 100);
    }

    public static void main(String[] args) throws IOException {
        face();
        classesInside();
        source();
        System.out.println(wrong == 0 ? "the form is as due" : wrong + " faults of form");
        if (wrong != 0) System.exit(1);
    }
}
