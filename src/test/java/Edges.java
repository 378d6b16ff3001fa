import java.util.ArrayList;
import java.util.List;

/**
 * A group of tests of edges. Each test has an object of its own, and is named by its promise, by the
 * sentence of the document that it is for, word for word, and by the edge.
 */
abstract class Edges {
    static final int BAD = -3, NO = -4, FULL = -5, NONE = -1;
    static final int LOWEST = Integer.MIN_VALUE, HIGHEST = Integer.MAX_VALUE;
    static final int OWN = 0, TOLD = 1, FAR = 2, WHOLE = 3;
    static final int IDLE = 0, OFFERED = 1, READY = 2, OVER = 3;

    /** Numbers that no call takes; those above 0 would be right ones if bits of them were lost. */
    static final int[] FAR_BELOW = {LOWEST, LOWEST + 1, -0x1000000, -65536, -257, -256, -255, -102, -3, -2};
    static final int[] FAR_ABOVE = {256, 257, 65536, 65537, 0x1000000, 0x40000000, HIGHEST - 1, HIGHEST};

    /** What a test does with its new object. */
    interface Body {
        void on(Post x);
    }

    /** A call that is looked at. */
    interface Call {
        int on(Post x);
    }

    record Name(int promise, String sentence, String edge) {
        String told() {
            return "promise " + promise + ", \"" + sentence + "\": " + edge;
        }
    }

    private final List<Name> names = new ArrayList<>();
    private int promise = 0;
    private int wrong = 0;
    private Name now = new Name(0, "", "");

    /** Makes all tests of the group, one after the other. */
    abstract void run();

    List<Name> names() {
        return names;
    }

    int wrong() {
        return wrong;
    }

    /** The tests that follow are for this promise. */
    void promise(int number) {
        promise = number;
    }

    void test(String sentence, String edge, Body body) {
        now = new Name(promise, sentence, edge);
        names.add(now);
        Post x = new Post();
        try {
            body.on(x);
        } catch (RuntimeException thrown) {
            fail("threw " + thrown);
        }
        if (x.calls() > Post.CALLS) fail("has " + x.calls() + " calls on one object");
    }

    /** A call answers so, and all that can be seen then is as if it had not been made. */
    void changesNothing(String sentence, String edge, int answer, Body setUp, Call call) {
        compare(sentence, edge, answer, setUp, call, x -> x.count(0));
    }

    /** Likewise of a call that reads the tape: as if the tape had been emptied instead. */
    void changesTapeAlone(String sentence, String edge, int answer, Body setUp, Call call) {
        compare(sentence, edge, answer, setUp, call, x -> x.trim(0));
    }

    private void compare(String sentence, String edge, int answer, Body setUp, Call call, Call instead) {
        test(sentence, edge, x -> {
            Post twin = new Post();
            setUp.on(x);
            setUp.on(twin);
            due("the call", call.on(x), answer);
            instead.on(twin);
            List<String> got = x.everything(), want = twin.everything();
            for (int i = 0; i < Math.max(got.size(), want.size()); i++) {
                String seen = i < got.size() ? got.get(i) : "nothing";
                String due = i < want.size() ? want.get(i) : "nothing";
                if (!seen.equals(due)) fail("after it " + seen + ", without it " + due);
            }
        });
    }

    void due(String what, int got, int want) {
        if (got != want) fail(what + " answered " + got + ", due is " + want);
    }

    void due(String what, String got, String want) {
        if (!got.equals(want)) fail(what + " is " + shown(got) + ", due is " + shown(want));
    }

    /** A call answers the same to each of these numbers. */
    void dueForAll(String what, int[] numbers, java.util.function.IntUnaryOperator call, int want) {
        for (int number : numbers) due(what + " of " + number, call.applyAsInt(number), want);
    }

    void fail(String what) {
        wrong++;
        System.out.println(now.told() + ": " + what);
    }

    /** OUT has just these bytes. */
    void outIs(Post x, String want) {
        due("count(4)", x.count(4), want.length());
        due("OUT", x.out(), want);
        due("out() behind OUT", x.out(want.length()), NONE);
    }

    /** OUT is these bits, filled with 0. */
    void bitsAre(Post x, String spaced) {
        String want = spaced.replace(" ", "");
        due("bits()", x.bits(), want.length());
        while (want.length() % 8 != 0) want += "0";
        StringBuilder got = new StringBuilder();
        for (char value : x.out().toCharArray()) got.append(Integer.toBinaryString(256 + value).substring(1));
        due("OUT as bits", got.toString(), want);
    }

    void partIs(Post x, int i, int kind, int p, int n) {
        due("part(" + i + ", 0)", x.part(i, 0), kind);
        due("part(" + i + ", 1)", x.part(i, 1), p);
        due("part(" + i + ", 2)", x.part(i, 2), n);
    }

    void partsAre(Post x, int[]... parts) {
        for (int i = 0; i < parts.length; i++) partIs(x, i, parts[i][0], parts[i][1], parts[i][2]);
        due("part() behind THE PARTS", x.part(parts.length, 0), NONE);
    }

    static int[] own(int n) {
        return new int[] {OWN, NONE, n};
    }

    static int[] told(int p, int n) {
        return new int[] {TOLD, p, n};
    }

    static int[] far(int p, int n) {
        return new int[] {FAR, p, n};
    }

    static int[] whole(int k, int n) {
        return new int[] {WHOLE, k, n};
    }

    /** So many bytes, each but once. */
    static String fresh(int n) {
        return fresh(0, n);
    }

    static String fresh(int from, int n) {
        StringBuilder row = new StringBuilder();
        for (int i = 0; i < n; i++) row.append((char) (from + i & 255));
        return row.toString();
    }

    private static String shown(String row) {
        StringBuilder told = new StringBuilder();
        for (char value : row.toCharArray()) {
            told.append(value > 32 && value < 127 ? "" + value : "<" + (int) value + ">");
        }
        return told.toString();
    }
}
