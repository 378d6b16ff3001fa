import com.sun.management.ThreadMXBean;
import java.lang.management.ManagementFactory;
import java.lang.reflect.Field;
import java.lang.reflect.Method;
import java.lang.reflect.Modifier;
import java.util.Arrays;
import java.util.Set;
import java.util.TreeSet;

/** The document's face, no more and no less, and the room that the dearest runs take. */
public final class FormTest {
    private static final String[] FACE = {"feed 5", "trim 1", "again 0", "out 1", "piece 0", "book 1", "about 2",
        "tell 2", "isOf 2", "pack 1", "greedy 1", "bits 0", "part 2", "rest 1", "unpack 0", "fault 0", "sample 0",
        "forget 0", "train 2", "gained 1", "price 1", "offer 1", "send 1", "over 1", "deliver 1", "lose 1",
        "twice 1", "message 2", "latest 0", "count 1"};
    /** A twentieth of 7.3 million elements, were each of 4 bytes. */
    private static final long ROOM = 7300000L * 4 / 20;

    private static int wrong = 0;

    private static void due(String what, boolean holds) {
        if (!holds) {
            wrong++;
            System.out.println(what);
        }
    }

    private static boolean visible(int modifiers) {
        return !Modifier.isPrivate(modifiers);
    }

    private static void methods(Class<?> face) {
        Set<String> methods = new TreeSet<>();
        for (Method method : face.getDeclaredMethods()) {
            if (method.isSynthetic() || !visible(method.getModifiers())) continue;
            due(method + " is public, not static, of ints", method.getModifiers() == Modifier.PUBLIC
                    && method.getReturnType() == int.class
                    && Arrays.stream(method.getParameterTypes()).allMatch(type -> type == int.class));
            methods.add(method.getName() + " " + method.getParameterCount());
        }
        due("the methods are " + methods, methods.equals(new TreeSet<>(Arrays.asList(FACE))));
    }

    private static void constants(Class<?> face) throws IllegalAccessException {
        Set<String> found = new TreeSet<>();
        for (Field field : face.getDeclaredFields()) {
            if (!visible(field.getModifiers())) continue;
            boolean constant = Modifier.isStatic(field.getModifiers()) && field.getType() == int.class;
            found.add(Modifier.toString(field.getModifiers()) + " " + field.getName()
                    + (constant ? " " + field.getInt(null) : ""));
        }
        Set<String> asked = new TreeSet<>();
        for (String constant : new String[] {"BAD -3", "NO -4", "FULL -5", "NONE -1"}) {
            asked.add("public static final " + constant);
        }
        due("the fields are " + found, found.equals(asked));
    }

    private static void face() throws IllegalAccessException {
        Class<?> face = ShortPost.class;
        due("public final", Modifier.isPublic(face.getModifiers()) && Modifier.isFinal(face.getModifiers()));
        due("one constructor", face.getDeclaredConstructors().length == 1);
        due("a public one, of nothing", face.getConstructors().length == 1
                && face.getConstructors()[0].getParameterCount() == 0);
        methods(face);
        constants(face);
    }

    private static void load(ShortPost post, int rows, int seed) {
        for (int i = 0; i < rows; i++) post.feed(seed, seed + i, seed, seed * 31, seed * (i + 7));
    }

    /** The greatest letters that can be, until no call is left. */
    private static void sendMany() {
        ShortPost post = new ShortPost();
        for (int call = 0; call < 511; call += 7) {
            load(post, 6, 0x01020304 * call + call);
            post.send(ShortPost.NONE);
        }
    }

    /** The greatest SAMPLES, and TRAINING again and again. */
    private static void trainMany() {
        ShortPost post = new ShortPost();
        for (int i = 0; i < 8; i++) {
            load(post, 2, 0x61626364);
            post.sample();
        }
        for (int call = 24; call < 512; call++) post.train(1 + call % 2, 6);
    }

    /** The greatest BOOKS that can be. */
    private static void bookMany() {
        ShortPost post = new ShortPost();
        for (int i = 0; i < 8; i++) {
            for (int k = 0; k < 20; k++) {
                load(post, 1, 0x01010101 * k + i);
                post.trim(16);
                post.piece();
            }
            post.book(2);
        }
    }

    private static void readMany() {
        ShortPost post = new ShortPost();
        load(post, 6, 0x71727374);
        post.pack(ShortPost.NONE);
        for (int call = 7; call < 511; call += 2) {
            post.again();
            post.unpack();
        }
    }

    private static void room() {
        ThreadMXBean threads = (ThreadMXBean) ManagementFactory.getThreadMXBean();
        Runnable[] runs = {FormTest::sendMany, FormTest::trainMany, FormTest::bookMany, FormTest::readMany};
        for (int i = 0; i < runs.length; i++) {
            // The first time classes are loaded, which would be counted as well.
            runs[i].run();
            long before = threads.getCurrentThreadAllocatedBytes();
            runs[i].run();
            long taken = threads.getCurrentThreadAllocatedBytes() - before;
            due("run " + i + " takes " + taken + " bytes", taken < ROOM);
        }
    }

    public static void main(String[] args) throws IllegalAccessException {
        face();
        room();
        System.out.println(wrong == 0 ? "the form is as due" : wrong + " faults of form");
        if (wrong != 0) System.exit(1);
    }
}
