import java.lang.reflect.Method;
import java.util.ArrayList;
import java.util.List;
import java.util.Random;

/**
 * Runs of up to 512 calls, always the same ones, on ShortPost and on PlainModel: all answers must
 * be the same. Each sort of run leans towards one part of the document.
 */
public final class ModelRuns {
    private static final int CALLS = 512;
    private static final int[] EDGES = {Integer.MIN_VALUE, -2, -1, 0, 1, 2, 3, 5, 6, 7, 10, 11, 20, 24,
        119, 120, 121, 199, 200, 239, 240, 241, Integer.MAX_VALUE};

    private final Random random;
    private final ShortPost post = new ShortPost();
    private final PlainModel model = new PlainModel();
    private final List<String> history = new ArrayList<>();
    private int calls = 0;
    private boolean failed = false;

    private ModelRuns(long seed) {
        random = new Random(seed);
    }

    private boolean done() {
        return failed || calls >= CALLS;
    }

    /** One call on both; when all 512 are used up it is left out. */
    private int call(String name, int... arguments) {
        if (done()) return 0;
        calls++;
        int due = ask(model, name, arguments);
        int got = ask(post, name, arguments);
        StringBuilder told = new StringBuilder(name).append(java.util.Arrays.toString(arguments));
        history.add(told.append(" answered ").append(got).append(", due is ").append(due).toString());
        failed = got != due;
        return due;
    }

    private static int ask(Object whom, String name, int[] arguments) {
        try {
            for (Method method : whom.getClass().getDeclaredMethods()) {
                if (!method.getName().equals(name) || method.isSynthetic()) continue;
                if (method.isVarArgs()) return (int) method.invoke(whom, (Object) arguments);
                if (method.getParameterCount() != arguments.length) continue;
                Object[] boxed = new Object[arguments.length];
                for (int i = 0; i < boxed.length; i++) boxed[i] = arguments[i];
                return (int) method.invoke(whom, boxed);
            }
        } catch (ReflectiveOperationException problem) {
            throw new IllegalStateException(name, problem);
        }
        throw new IllegalStateException("no " + name);
    }

    private boolean chance(int oneIn) {
        return random.nextInt(oneIn) == 0;
    }

    private int edge() {
        return EDGES[random.nextInt(EDGES.length)];
    }

    /** A row of bytes with much in common with others. */
    private String row(int size) {
        StringBuilder row = new StringBuilder();
        int letters = 1 + random.nextInt(4);
        List<String> pieces = new ArrayList<>(model.allPieces());
        while (row.length() < size) {
            int sort = random.nextInt(5);
            if (sort == 0 && row.length() > 0) {
                int from = random.nextInt(row.length());
                int n = 1 + random.nextInt(row.length() - from);
                row.append(row.substring(from, from + n));
            } else if (sort <= 2 && !pieces.isEmpty()) {
                String piece = pieces.get(random.nextInt(pieces.size()));
                int from = chance(2) || piece.isEmpty() ? 0 : random.nextInt(piece.length());
                row.append(piece.substring(from));
            } else if (sort == 3) {
                row.append((char) random.nextInt(256));
            } else {
                int n = 1 + random.nextInt(6);
                for (int i = 0; i < n; i++) row.append((char) ('a' + random.nextInt(letters)));
            }
        }
        return row.substring(0, size);
    }

    private int number(String row, int at) {
        int number = 0;
        for (int i = at; i < at + 4; i++) {
            number = number << 8 | (i < row.length() ? row.charAt(i) : random.nextInt(256));
        }
        return number;
    }

    /** The tape becomes a row, if it was empty. */
    private void load(String row) {
        for (int at = 0; at < row.length(); at += 20) {
            call("feed", number(row, at), number(row, at + 4), number(row, at + 8),
                    number(row, at + 12), number(row, at + 16));
        }
        if (row.length() % 20 != 0 || chance(8)) call("trim", row.length());
    }

    private int size(int usual, int limit) {
        if (chance(12)) return limit + random.nextInt(3) - 1;
        return random.nextInt(usual + 1);
    }

    private int someBook() {
        if (chance(15)) return edge();
        return random.nextInt(model.bookCount() + 1) - 1;
    }

    private void makeBook() {
        int kind = chance(20) ? edge() : random.nextInt(3);
        int pieces = kind == 0 ? random.nextInt(2) : 1 + random.nextInt(chance(8) ? 21 : 5);
        for (int i = 0; i < pieces && !done(); i++) {
            load(row(kind == 0 ? size(60, 200) : chance(10) ? size(3, 16) : 2 + random.nextInt(15)));
            call("piece");
        }
        call("book", kind);
        if (chance(3)) call("book", random.nextInt(3));
        call("count", 2);
        int book = someBook();
        call("about", book, chance(6) ? edge() : random.nextInt(6));
        call("tell", book, chance(6) ? edge() : random.nextInt(4));
        call("isOf", book, chance(6) ? edge() : random.nextInt(3));
    }

    private void packLetter() {
        String letter = row(size(chance(3) ? 120 : 40, 120));
        int book = someBook();
        load(letter);
        call("pack", book);
        call("bits");
        call("rest", chance(4) ? edge() : random.nextInt(letter.length() + 2));
        for (int i = 0; i < 4; i++) {
            int part = chance(8) ? edge() : random.nextInt(1 + letter.length() / 6 + 1);
            call("part", part, chance(9) ? edge() : random.nextInt(3));
        }
        call("out", chance(6) ? edge() : random.nextInt(20));
        if (chance(2)) {
            call("again");
            if (chance(4)) call("trim", Math.max(0, call("count", 3) - 1 - random.nextInt(3)));
            call("unpack");
            call("fault");
            call("out", random.nextInt(letter.length() + 1));
        }
        load(letter);
        call("greedy", book);
        call("count", 4);
    }

    /** Bits that are nearly right, or not at all. */
    private String writtenBits() {
        StringBuilder bits = new StringBuilder();
        int book = chance(10) ? random.nextInt(32) : random.nextInt(model.bookCount() + 1);
        bits.append(PlainModel.fixed(book, 5));
        int rowSize = book > 0 && book <= model.bookCount() ? model.about(book - 1, 2) : 0;
        int size = chance(12) ? random.nextInt(254) : random.nextInt(40);
        bits.append(PlainModel.gammaBits(size + 1));
        int at = 0;
        while (at < size && !chance(25)) {
            int kind = random.nextInt(4);
            int n = chance(20) ? 1 + random.nextInt(255) : 1 + random.nextInt(Math.min(8, size - at));
            bits.append(PlainModel.fixed(kind, 2));
            if (kind == 1) bits.append(PlainModel.fixed(random.nextInt(rowSize + 2), PlainModel.w(rowSize)));
            if (kind == 2) bits.append(PlainModel.fixed(random.nextInt(at + 2), PlainModel.w(at)));
            bits.append(PlainModel.gammaBits(n));
            for (int i = 0; kind == 0 && i < n; i++) bits.append(PlainModel.fixed(random.nextInt(256), 8));
            at += kind == 0 ? n : n + 2;
        }
        if (chance(9)) bits.append(PlainModel.fixed(random.nextInt(4), 2)).append("0".repeat(7 + random.nextInt(8)));
        if (chance(6)) bits.append(random.nextInt(2));
        if (chance(10)) bits.append("0".repeat(random.nextInt(20)));
        return bits.toString();
    }

    private void readBits() {
        String bytes = chance(6) ? row(random.nextInt(12)) : PlainModel.toBytes(writtenBits());
        if (bytes.length() > 240) bytes = bytes.substring(0, 240);
        if (chance(5) && !bytes.isEmpty()) bytes = bytes.substring(0, random.nextInt(bytes.length()));
        load(bytes);
        call("unpack");
        call("fault");
        call("count", 4);
        call("out", random.nextInt(10));
    }

    private void trainBook() {
        if (chance(5)) call("forget");
        int more = 1 + random.nextInt(5);
        for (int i = 0; i < more; i++) {
            load(row(size(40, 40)));
            call("sample");
        }
        call("count", 1);
        call("train", chance(12) ? edge() : 1 + random.nextInt(2), chance(12) ? edge() : 1 + random.nextInt(6));
        for (int what = 0; what < 5; what++) call("gained", what);
        call("gained", edge());
        call("price", someBook());
        call("tell", model.bookCount() - 1, random.nextInt(3));
        call("out", random.nextInt(4));
    }

    private int someMessage(int recent) {
        if (chance(25)) return edge();
        int sent = model.count(5);
        if (sent == 0) return 0;
        return chance(3) ? random.nextInt(sent) : Math.max(0, sent - 1 - random.nextInt(Math.min(recent, sent)));
    }

    private void useWire() {
        if (chance(20)) floodWire();
        int recent = 1 + random.nextInt(12);
        for (int i = 0; i < 12 && !done(); i++) {
            int sort = random.nextInt(13);
            if (sort <= 1) {
                call("offer", someBook());
            } else if (sort <= 3) {
                if (chance(2)) load(row(random.nextInt(12)));
                call("send", someBook());
            } else if (sort == 4) {
                if (chance(3)) call("over", someBook());
            } else if (sort <= 8) {
                call("deliver", someMessage(recent));
            } else if (sort == 9) {
                call("lose", someMessage(recent));
            } else if (sort == 10) {
                call("twice", someMessage(recent));
            } else {
                lookAtWire(recent);
            }
        }
    }

    /** Uses up the room for MESSAGES, so that answers find none. */
    private void floodWire() {
        for (int i = 0; i < 40 && !done(); i++) {
            if (chance(3)) call("offer", someBook());
            else call("send", chance(4) ? someBook() : -1);
        }
    }

    private void lookAtWire(int recent) {
        call("message", someMessage(recent), chance(9) ? edge() : random.nextInt(5));
        call("about", someBook(), 3 + random.nextInt(3));
        call("count", chance(9) ? edge() : 5 + random.nextInt(6));
        if (chance(2)) {
            call("latest");
            call("out", random.nextInt(12));
        }
    }

    private void anyCall() {
        int what = edge();
        switch (random.nextInt(8)) {
            case 0 -> call("trim", what);
            case 1 -> call("out", what);
            case 2 -> call("again");
            case 3 -> call("feed", random.nextInt(), random.nextInt(), random.nextInt(), random.nextInt(), edge());
            case 4 -> call("gained", what);
            case 5 -> call("count", what);
            case 6 -> call("rest", what);
            default -> call("book", what);
        }
    }

    private void run(int lean) {
        for (int step = 0; step < 2000 && !done(); step++) {
            int sort = chance(3) ? random.nextInt(6) : lean;
            if (model.bookCount() == 0 && chance(2)) sort = 0;
            switch (sort) {
                case 0 -> makeBook();
                case 1 -> packLetter();
                case 2 -> readBits();
                case 3 -> trainBook();
                case 4 -> useWire();
                default -> anyCall();
            }
        }
    }

    public static void main(String[] args) {
        int runs = args.length > 0 ? Integer.parseInt(args[0]) : 300;
        long first = args.length > 1 ? Long.parseLong(args[1]) : 0;
        int wrong = 0;
        for (long seed = first; seed < first + runs && wrong < 3; seed++) {
            ModelRuns run = new ModelRuns(seed);
            run.run((int) Math.floorMod(seed, 6L));
            if (run.failed) {
                wrong++;
                System.out.println("run " + seed + ", the last calls:");
                int from = Math.max(0, run.history.size() - 12);
                for (String told : run.history.subList(from, run.history.size())) System.out.println("  " + told);
            }
        }
        System.out.println(wrong == 0 ? runs + " runs are as the model's" : "runs differ from the model's");
        if (wrong != 0) System.exit(1);
    }
}
