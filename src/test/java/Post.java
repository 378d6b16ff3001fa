import java.util.ArrayList;
import java.util.List;
import java.util.function.IntSupplier;

/**
 * A ShortPost whose calls are counted (what it answers after 512 is free), with longer steps made of
 * calls. Texts stand for rows of bytes.
 */
final class Post {
    static final int CALLS = 512;
    private static final int NONE = -1;

    private final ShortPost post = new ShortPost();
    private int calls = 0;

    private ShortPost call() {
        calls++;
        return post;
    }

    int calls() {
        return calls;
    }

    // ---- the calls of the document

    int feed(int a, int b, int c, int d, int e) {
        return call().feed(a, b, c, d, e);
    }

    int trim(int n) {
        return call().trim(n);
    }

    int again() {
        return call().again();
    }

    int out(int i) {
        return call().out(i);
    }

    int piece() {
        return call().piece();
    }

    int book(int kind) {
        return call().book(kind);
    }

    int about(int book, int what) {
        return call().about(book, what);
    }

    int tell(int book, int k) {
        return call().tell(book, k);
    }

    int isOf(int book, int kind) {
        return call().isOf(book, kind);
    }

    int pack(int book) {
        return call().pack(book);
    }

    int greedy(int book) {
        return call().greedy(book);
    }

    int bits() {
        return call().bits();
    }

    int part(int i, int what) {
        return call().part(i, what);
    }

    int rest(int i) {
        return call().rest(i);
    }

    int unpack() {
        return call().unpack();
    }

    int fault() {
        return call().fault();
    }

    int sample() {
        return call().sample();
    }

    int forget() {
        return call().forget();
    }

    int train(int kind, int pieces) {
        return call().train(kind, pieces);
    }

    int gained(int what) {
        return call().gained(what);
    }

    int price(int book) {
        return call().price(book);
    }

    int offer(int book) {
        return call().offer(book);
    }

    int send(int book) {
        return call().send(book);
    }

    int over(int book) {
        return call().over(book);
    }

    int deliver(int message) {
        return call().deliver(message);
    }

    int lose(int message) {
        return call().lose(message);
    }

    int twice(int message) {
        return call().twice(message);
    }

    int message(int message, int what) {
        return call().message(message, what);
    }

    int latest() {
        return call().latest();
    }

    int count(int what) {
        return call().count(what);
    }

    // ---- longer steps

    private static int number(String row, int at) {
        int number = 0;
        for (int i = at; i < at + 4; i++) number = number << 8 | (i < row.length() ? row.charAt(i) : 0);
        return number;
    }

    /** The tape, which is empty, becomes a row. */
    void load(String row) {
        for (int at = 0; at < row.length(); at += 20) {
            feed(number(row, at), number(row, at + 4), number(row, at + 8), number(row, at + 12), number(row, at + 16));
        }
        if (row.length() % 20 != 0) trim(row.length());
    }

    int piece(String row) {
        load(row);
        return piece();
    }

    int book(int kind, String... pieces) {
        for (String row : pieces) piece(row);
        return book(kind);
    }

    /** So many BOOKS more, each of one PIECE of 0 bytes. */
    void emptyBooks(int number) {
        for (int i = 0; i < number; i++) book(0);
    }

    int pack(String letter, int book) {
        load(letter);
        return pack(book);
    }

    int greedy(String letter, int book) {
        load(letter);
        return greedy(book);
    }

    int sample(String row) {
        load(row);
        return sample();
    }

    void samples(String... rows) {
        for (String row : rows) sample(row);
    }

    int send(String letter, int book) {
        load(letter);
        return send(book);
    }

    /** unpack() of bits, filled with 0 to whole bytes; spaces are for the eye. */
    int unpack(String spaced) {
        String bits = spaced.replace(" ", "");
        StringBuilder row = new StringBuilder();
        for (int i = 0; i < bits.length(); i += 8) {
            String eight = (bits.substring(i) + "0000000").substring(0, 8);
            row.append((char) Integer.parseInt(eight, 2));
        }
        load(row.toString());
        return unpack();
    }

    /** A BOOK is offered, HELD and READY: two MESSAGES more were sent, and both came. */
    void makeReady(int book) {
        int first = offer(book) - 1;
        deliver(first);
        deliver(first + 1);
    }

    /** LETTERS of no bytes are sent till so many MESSAGES were. */
    void fillWire(int messages) {
        for (int sent = count(5); sent < messages; sent++) send(NONE);
    }

    String out() {
        StringBuilder row = new StringBuilder();
        int size = count(4);
        for (int i = 0; i < size; i++) row.append((char) out(i));
        return row.toString();
    }

    /** The tape, of which 120 bytes at most are looked at; it, OUT and THE PARTS are used for that. */
    String tape() {
        if (count(3) > 120) trim(120);
        pack(NONE);
        again();
        unpack();
        return out();
    }

    // ---- everything that can be seen

    /** All that calls can tell, the last of them using it up; as far as 512 calls go. */
    List<String> everything() {
        List<String> seen = new ArrayList<>();
        lookAtCounts(seen);
        lookAtPacked(seen);
        lookAtBooks(seen);
        lookAtMessages(seen);
        int books = Math.min(ask(() -> count(0)), 4);
        for (int book = NONE; book < books; book++) {
            int with = book;
            see(seen, "price " + book, () -> price(with));
        }
        seeOut(seen, "OUT");
        useTape(seen);
        if (ask(this::latest) != NONE) seeOut(seen, "latest");
        tellPieces(seen, 0);
        useDraft(seen);
        deliverAll(seen);
        useSamples(seen);
        return seen;
    }

    /** 0, without a call, once there is no room for more calls. */
    private int ask(IntSupplier call) {
        return calls < CALLS ? call.getAsInt() : 0;
    }

    private void see(List<String> seen, String what, IntSupplier call) {
        if (calls < CALLS) seen.add(what + " is " + call.getAsInt());
    }

    private void seeOut(List<String> seen, String what) {
        int size = Math.min(ask(() -> count(4)), 30);
        for (int i = 0; i < size; i++) {
            int at = i;
            see(seen, what + " at " + i, () -> out(at));
        }
    }

    private void lookAtCounts(List<String> seen) {
        for (int i = 0; i <= 10; i++) {
            int what = i;
            see(seen, "count " + what, () -> count(what));
        }
        see(seen, "fault", this::fault);
        see(seen, "bits", this::bits);
        for (int i = 0; i <= 4; i++) {
            int what = i;
            see(seen, "gained " + what, () -> gained(what));
        }
    }

    private void lookAtPacked(List<String> seen) {
        for (int i = 0; i < 12; i++) {
            int at = i / 3, what = i % 3;
            see(seen, "part " + at + " " + what, () -> part(at, what));
        }
        for (int i = 0; i < 12; i++) {
            int at = i;
            see(seen, "rest " + at, () -> rest(at));
        }
    }

    private void lookAtBooks(List<String> seen) {
        int books = Math.min(ask(() -> count(0)), 5);
        for (int i = 0; i < 6 * books; i++) {
            int book = i / 6, what = i % 6;
            see(seen, "about " + book + " " + what, () -> about(book, what));
        }
    }

    private void lookAtMessages(List<String> seen) {
        int sent = ask(() -> count(5));
        for (int i = 5 * Math.max(0, sent - 12); i < 5 * sent; i++) {
            int message = i / 5, what = i % 5;
            see(seen, "message " + message + " " + what, () -> message(message, what));
        }
    }

    private void useTape(List<String> seen) {
        if (ask(() -> count(3)) > 120) ask(() -> trim(120));
        see(seen, "the tape packed", () -> pack(NONE));
        ask(this::again);
        see(seen, "the tape unpacked", this::unpack);
        seeOut(seen, "the tape");
    }

    private void tellPieces(List<String> seen, int from) {
        int books = Math.min(ask(() -> count(0)), from + 5);
        for (int i = from; i < books; i++) {
            int book = i;
            int pieces = Math.min(ask(() -> about(book, 1)), 3);
            for (int j = 0; j < pieces; j++) {
                int k = j;
                see(seen, "tell " + book + " " + k, () -> tell(book, k));
                seeOut(seen, "PIECE " + book + " " + k);
            }
        }
    }

    private void useDraft(List<String> seen) {
        int were = ask(() -> count(0));
        see(seen, "the DRAFT as CUT", () -> book(1));
        see(seen, "the DRAFT as PLAIN", () -> book(0));
        tellPieces(seen, were);
    }

    private void deliverAll(List<String> seen) {
        int sent = ask(() -> count(5));
        for (int i = Math.max(0, sent - 12); i < sent; i++) {
            int message = i;
            see(seen, "deliver " + message, () -> deliver(message));
        }
        for (int i = 5; i <= 10; i++) {
            int what = i;
            see(seen, "then count " + what, () -> count(what));
        }
        for (int i = 0; i < 8; i++) {
            int book = i / 2, what = 3 + i % 2;
            see(seen, "then about " + book + " " + what, () -> about(book, what));
        }
    }

    private void useSamples(List<String> seen) {
        int were = ask(() -> count(0));
        see(seen, "train", () -> train(2, 6));
        tellPieces(seen, were);
    }
}
