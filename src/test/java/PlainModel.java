import java.util.ArrayList;
import java.util.Arrays;
import java.util.Collections;
import java.util.Comparator;
import java.util.HashSet;
import java.util.LinkedHashSet;
import java.util.List;
import java.util.Set;

/**
 * The document again, as slowly and as literally as can be: every PART that can be is listed, whole
 * rows of PARTS are compared, bits are characters. Texts stand for rows of bytes. ModelRuns compares
 * ShortPost with it.
 */
final class PlainModel {
    private static final int BAD = -3, NO = -4, FULL = -5, NONE = -1;

    record Part(int kind, int p, int n, int price) {}

    record Least(int price, List<Part> parts) {}

    private static final class Book {
        int number, kind;
        List<String> pieces = new ArrayList<>();
        int state, sent;
        boolean held, going;
        int told;

        String row() {
            return String.join("", pieces);
        }
    }

    private static final class Message {
        int sort, underWay = 1, letters = NONE, fate = 0;
        Book book;
        String letter;
    }

    private static final class Fault extends RuntimeException {
        private static final long serialVersionUID = 1;
        final int code, place;

        Fault(int code, int place) {
            this.code = code;
            this.place = place;
        }
    }

    private String tape = "", out = "";
    private List<String> draft = new ArrayList<>();
    private final List<Book> books = new ArrayList<>();
    private final Book nothing = new Book();
    private List<Least> packed = null;
    private int packedBits = NONE;
    private int fault = 0;
    private final List<String> samples = new ArrayList<>();
    private int gainedCandidates = 0;
    private List<Integer> gains = null;
    private final List<Message> messages = new ArrayList<>();
    private String latest = null;
    private int came = 0, twice = 0, missing = 0;

    PlainModel() {
        nothing.number = NONE;
        nothing.state = 2;
        nothing.held = true;
    }

    private String useTape() {
        String was = tape;
        tape = "";
        return was;
    }

    private Book find(int book) {
        return book >= 0 && book < books.size() ? books.get(book) : null;
    }

    private Book findOrNothing(int book) {
        return book == NONE ? nothing : find(book);
    }

    static String gammaBits(int n) {
        String bits = Integer.toBinaryString(n);
        return "0".repeat(bits.length() - 1) + bits;
    }

    static int g(int n) {
        return gammaBits(n).length();
    }

    static int w(int n) {
        return n == 0 ? 0 : Integer.toBinaryString(n).length();
    }

    static String fixed(int n, int bits) {
        String all = "0".repeat(32) + Integer.toBinaryString(n);
        return all.substring(all.length() - bits);
    }

    // ---- tape, OUT

    int feed(int... numbers) {
        if (tape.length() + 20 > 240) return FULL;
        for (int number : numbers) {
            for (int i = 3; i >= 0; i--) tape += (char) (number >> 8 * i & 255);
        }
        return tape.length();
    }

    int trim(int n) {
        if (n < 0 || n > tape.length()) return BAD;
        tape = tape.substring(0, n);
        return n;
    }

    int again() {
        tape = out;
        return tape.length();
    }

    int out(int i) {
        return i < 0 || i >= out.length() ? NONE : out.charAt(i);
    }

    // ---- books

    int piece() {
        String piece = useTape();
        if (piece.isEmpty() || piece.length() > 200) return BAD;
        if (draft.size() == 20) return FULL;
        draft.add(piece);
        return draft.size();
    }

    int book(int kind) {
        if (kind < 0 || kind > 2) return BAD;
        if (kind == 0 && draft.size() > 1) return BAD;
        if (kind > 0 && draft.isEmpty()) return BAD;
        for (String piece : draft) {
            if (kind > 0 && (piece.length() < 2 || piece.length() > 16)) return BAD;
        }
        if (books.size() == 24) return FULL;
        if (draft.isEmpty()) draft.add("");
        List<String> pieces = draft;
        draft = new ArrayList<>();
        return addBook(kind, pieces);
    }

    private int addBook(int kind, List<String> pieces) {
        Book made = new Book();
        made.number = books.size();
        made.kind = kind;
        made.pieces = pieces;
        books.add(made);
        return made.number;
    }

    int about(int book, int what) {
        Book of = find(book);
        if (of == null || what < 0 || what > 5) return BAD;
        int[] all = {of.kind, of.pieces.size(), of.row().length(), of.state, of.held ? 1 : 0, of.sent};
        return all[what];
    }

    int tell(int book, int k) {
        Book of = find(book);
        if (of == null || k < 0 || k >= of.pieces.size()) return BAD;
        out = of.pieces.get(k);
        return out.length();
    }

    int isOf(int book, int kind) {
        Book of = find(book);
        if (of == null || kind < 0 || kind > 2) return BAD;
        if (kind == 0) return 1;
        if (kind == 1) return of.kind == 1 || of.kind == 2 ? 1 : 0;
        return of.kind == 2 ? 1 : 0;
    }

    // ---- packing

    /** Every PART that can be at byte i. */
    private static List<Part> partsAt(String letter, int i, List<String> pieces, boolean ranked) {
        List<Part> all = new ArrayList<>();
        int left = letter.length() - i;
        for (int n = 1; n <= left; n++) all.add(new Part(0, NONE, n, 2 + g(n) + 8 * n));
        int rowSize = String.join("", pieces).length();
        int start = 0;
        for (String piece : pieces) {
            for (int from = 0; from < piece.length(); from++) {
                for (int n = 3; from + n <= piece.length() && n <= left; n++) {
                    if (letter.startsWith(piece.substring(from, from + n), i)) {
                        all.add(new Part(1, start + from, n, 2 + w(rowSize) + g(n - 2)));
                    }
                }
            }
            start += piece.length();
        }
        for (int p = 0; p < i; p++) {
            for (int n = 3; p + n <= i && n <= left; n++) {
                if (letter.startsWith(letter.substring(p, p + n), i)) {
                    all.add(new Part(2, p, n, 2 + w(i) + g(n - 2)));
                }
            }
        }
        for (int k = 0; ranked && k < pieces.size(); k++) {
            if (letter.startsWith(pieces.get(k), i)) {
                all.add(new Part(3, k, pieces.get(k).length(), 2 + g(k + 1)));
            }
        }
        return all;
    }

    private static int compareParts(List<Part> a, List<Part> b) {
        for (int i = 0; i < a.size() && i < b.size(); i++) {
            Part x = a.get(i), y = b.get(i);
            int order = Comparator.comparingInt(Part::kind).thenComparingInt(Part::p)
                    .thenComparingInt(Part::n).compare(x, y);
            if (order != 0) return order;
        }
        return a.size() - b.size();
    }

    /** LEAST from each byte on. */
    private static List<Least> leastOf(String letter, List<String> pieces, boolean ranked) {
        Least[] from = new Least[letter.length() + 1];
        from[letter.length()] = new Least(0, List.of());
        for (int i = letter.length() - 1; i >= 0; i--) {
            List<Least> rows = new ArrayList<>();
            for (Part part : partsAt(letter, i, pieces, ranked)) {
                List<Part> row = new ArrayList<>(List.of(part));
                row.addAll(from[i + part.n()].parts());
                rows.add(new Least(part.price() + from[i + part.n()].price(), row));
            }
            from[i] = Collections.min(rows, Comparator.comparingInt(Least::price)
                    .thenComparingInt(least -> least.parts().size())
                    .thenComparing(Least::parts, PlainModel::compareParts));
        }
        return Arrays.asList(from);
    }

    private static String write(String letter, Book book, List<Part> parts) {
        StringBuilder bits = new StringBuilder(fixed(book.number + 1, 5));
        bits.append(gammaBits(letter.length() + 1));
        int i = 0;
        for (Part part : parts) {
            bits.append(fixed(part.kind(), 2));
            if (part.kind() == 0) {
                bits.append(gammaBits(part.n()));
                for (int j = i; j < i + part.n(); j++) bits.append(fixed(letter.charAt(j), 8));
            } else if (part.kind() == 3) {
                bits.append(gammaBits(part.p() + 1));
            } else {
                bits.append(fixed(part.p(), w(part.kind() == 1 ? book.row().length() : i)));
                bits.append(gammaBits(part.n() - 2));
            }
            i += part.n();
        }
        return bits.toString();
    }

    static String toBytes(String bits) {
        StringBuilder bytes = new StringBuilder();
        String filled = bits + "0".repeat((8 - bits.length() % 8) % 8);
        for (int i = 0; i < filled.length(); i += 8) {
            bytes.append((char) Integer.parseInt(filled.substring(i, i + 8), 2));
        }
        return bytes.toString();
    }

    int pack(int book) {
        String letter = useTape();
        Book with = findOrNothing(book);
        if (with == null || letter.length() > 120) return BAD;
        packed = leastOf(letter, with.pieces, with.kind == 2);
        String bits = write(letter, with, packed.get(0).parts());
        packedBits = bits.length();
        out = toBytes(bits);
        return packed.get(0).price();
    }

    int greedy(int book) {
        String letter = useTape();
        Book with = findOrNothing(book);
        if (with == null || letter.length() > 120) return BAD;
        int price = 0;
        for (int i = 0; i < letter.length();) {
            Part best = null;
            for (Part part : partsAt(letter, i, with.pieces, with.kind == 2)) {
                if (part.kind() == 0) {
                    if (best == null) best = part;
                    continue;
                }
                boolean aheadByKind = best.kind() == 0 || part.kind() == 3 && best.kind() != 3;
                boolean alike = (part.kind() == 3) == (best.kind() == 3);
                if (aheadByKind || alike && part.n() > best.n()) best = part;
            }
            price += best.price();
            i += best.n();
        }
        return price;
    }

    int bits() {
        return packedBits;
    }

    int part(int i, int what) {
        if (i < 0 || what < 0 || what > 2) return BAD;
        if (packed == null || i >= packed.get(0).parts().size()) return NONE;
        Part part = packed.get(0).parts().get(i);
        return new int[] {part.kind(), part.p(), part.n()}[what];
    }

    int rest(int i) {
        if (i < 0 || i > 120) return BAD;
        if (packed == null) return NONE;
        return i >= packed.size() ? BAD : packed.get(i).price();
    }

    private String bits;
    private int at;

    private int read(int n) {
        int value = 0;
        for (int i = 0; i < n; i++) {
            if (at == bits.length()) throw new Fault(1, bits.length());
            value = 2 * value + bits.charAt(at++) - '0';
        }
        return value;
    }

    private int readGamma() {
        int first = at, zeros = 0;
        while (read(1) == 0) {
            if (++zeros == 8) throw new Fault(3, first);
        }
        return (1 << zeros) | read(zeros);
    }

    private String readLetter(String bytes) {
        StringBuilder all = new StringBuilder();
        for (char c : bytes.toCharArray()) all.append(fixed(c, 8));
        bits = all.toString();
        at = 0;
        Book with = findOrNothing(read(5) - 1);
        if (with == null) throw new Fault(2, 0);
        int size = readGamma() - 1;
        if (size > 120) throw new Fault(4, 5);
        String letter = "";
        while (letter.length() < size) letter += readPart(letter, size, with);
        String rest = bits.substring(at);
        if (rest.length() >= 8 || rest.contains("1")) throw new Fault(6, at);
        return letter;
    }

    private String readPart(String letter, int size, Book with) {
        Fault wrong = new Fault(5, at);
        int kind = read(2), left = size - letter.length();
        String got = "";
        if (kind == 0) {
            int n = readGamma();
            if (n > 120 || n > left) throw wrong;
            for (int i = 0; i < n; i++) got += (char) read(8);
            return got;
        }
        if (kind == 3) {
            if (with.kind != 2) throw wrong;
            int k = readGamma() - 1;
            if (k >= with.pieces.size()) throw wrong;
            got = with.pieces.get(k);
        } else {
            String row = kind == 1 ? with.row() : letter;
            int p = read(w(row.length()));
            int n = readGamma() + 2;
            int end = letter.length();
            if (kind == 1) {
                end = 0;
                for (String piece : with.pieces) {
                    if (p >= end) end += piece.length();
                }
            }
            if (p >= end || p + n > end) throw wrong;
            got = row.substring(p, p + n);
        }
        if (got.length() > left) throw wrong;
        return got;
    }

    int unpack() {
        try {
            out = readLetter(useTape());
            fault = 0;
            return out.length();
        } catch (Fault found) {
            fault = found.code;
            return -100 - found.place;
        }
    }

    int fault() {
        return fault;
    }

    // ---- training

    int sample() {
        String sample = useTape();
        if (sample.isEmpty() || sample.length() > 40) return BAD;
        if (samples.size() == 8) return FULL;
        samples.add(sample);
        return samples.size();
    }

    int forget() {
        int were = samples.size();
        samples.clear();
        return were;
    }

    private int spread(String row) {
        int spread = 0;
        for (String sample : samples) if (sample.contains(row)) spread++;
        return spread;
    }

    private static final Comparator<String> LONGEST_FIRST =
            Comparator.comparingInt((String row) -> -row.length()).thenComparing(row -> row);

    private List<String> candidates() {
        Set<String> rows = new HashSet<>();
        for (String sample : samples) {
            for (int n = 3; n <= 12; n++) {
                for (int i = 0; i + n <= sample.length(); i++) rows.add(sample.substring(i, i + n));
            }
        }
        List<String> all = new ArrayList<>();
        for (String row : rows) if (spread(row) >= 2) all.add(row);
        all.sort(Comparator.comparingInt((String row) -> -spread(row)).thenComparing(LONGEST_FIRST));
        return all.subList(0, Math.min(8, all.size()));
    }

    private int priceWith(List<String> pieces, boolean ranked) {
        int price = 0;
        for (String sample : samples) price += leastOf(sample, pieces, ranked).get(0).price();
        return price;
    }

    int train(int kind, int most) {
        if (kind < 1 || kind > 2 || most < 1 || most > 6) return BAD;
        if (books.size() == 24) return FULL;
        List<String> candidates = candidates();
        List<String> taken = new ArrayList<>();
        List<Integer> taking = new ArrayList<>();
        while (taken.size() < most) {
            String best = null;
            int bestGain = 0;
            for (String row : candidates) {
                List<String> with = new ArrayList<>(taken);
                with.add(row);
                int gain = priceWith(taken, kind == 2) - priceWith(with, kind == 2)
                        - (2 + g(row.length()) + 8 * row.length());
                boolean better = best == null || gain > bestGain
                        || gain == bestGain && LONGEST_FIRST.compare(row, best) < 0;
                if (better) {
                    best = row;
                    bestGain = gain;
                }
            }
            if (best == null || bestGain <= 0) break;
            taken.add(best);
            taking.add(bestGain);
        }
        if (taken.isEmpty()) return NONE;
        gainedCandidates = candidates.size();
        gains = taking;
        return addBook(kind, taken);
    }

    int gained(int what) {
        if (what < 0) return BAD;
        if (gains == null) return NONE;
        if (what == 0) return gainedCandidates;
        if (what == 1) return gains.size();
        return what - 2 < gains.size() ? gains.get(what - 2) : NONE;
    }

    int price(int book) {
        Book with = findOrNothing(book);
        return with == null ? BAD : priceWith(with.pieces, with.kind == 2);
    }

    // ---- the wire

    private boolean post(int sort, Book book, int letters, String letter) {
        if (messages.size() == 200) return false;
        Message made = new Message();
        made.sort = sort;
        made.book = book;
        made.letters = letters;
        made.letter = letter;
        messages.add(made);
        return true;
    }

    int offer(int book) {
        Book of = find(book);
        if (of == null) return BAD;
        if (of.state >= 2) return NO;
        if (!post(0, of, NONE, null)) return FULL;
        of.state = 1;
        return messages.size();
    }

    int send(int book) {
        String letter = useTape();
        Book with = findOrNothing(book);
        if (with == null || letter.length() > 120) return BAD;
        if (with.state != 2) return NO;
        if (!post(3, with, with.sent, letter)) return FULL;
        with.sent++;
        return messages.size();
    }

    int over(int book) {
        Book of = find(book);
        if (of == null) return BAD;
        if (of.state != 2) return NO;
        if (!post(4, of, of.sent, null)) return FULL;
        of.state = 3;
        return messages.size();
    }

    private int held() {
        return (int) books.stream().filter(book -> book.held).count();
    }

    /** Looks at all LETTERS anew after each event. */
    private void release() {
        for (Book book : books) {
            long settled = messages.stream()
                    .filter(it -> it.sort == 3 && it.book == book && it.fate != 0).count();
            if (book.going && book.held && settled >= book.told) book.held = false;
        }
    }

    int deliver(int message) {
        if (message < 0 || message >= messages.size()) return BAD;
        Message it = messages.get(message);
        if (it.underWay == 0) return NO;
        it.underWay--;
        boolean sent = true;
        Book b = it.book;
        if (it.sort == 0) {
            if (b.held) {
                sent = post(1, b, NONE, null);
            } else if (held() < 4) {
                b.held = true;
                b.going = false;
                sent = post(1, b, NONE, null);
            } else {
                sent = post(2, b, NONE, null);
            }
        } else if (it.sort == 1) {
            if (b.state == 1) b.state = 2;
            else if (b.state == 3) sent = post(4, b, b.sent, null);
        } else if (it.sort == 2) {
            if (b.state == 1) b.state = 0;
        } else if (it.sort == 3) {
            if (it.fate != 0) {
                twice++;
            } else {
                it.fate = 1;
                came++;
                if (b.held) latest = it.letter;
                else missing++;
            }
        } else {
            b.going = true;
            b.told = it.letters;
        }
        release();
        return sent ? 0 : 1;
    }

    int lose(int message) {
        if (message < 0 || message >= messages.size()) return BAD;
        Message it = messages.get(message);
        if (it.underWay == 0) return NO;
        it.underWay--;
        if (it.sort == 3 && it.fate != 1 && it.underWay == 0) it.fate = 2;
        release();
        return it.underWay;
    }

    int twice(int message) {
        if (message < 0 || message >= messages.size()) return BAD;
        Message it = messages.get(message);
        if (it.underWay == 3) return NO;
        return ++it.underWay;
    }

    int message(int message, int what) {
        if (message < 0 || message >= messages.size() || what < 0 || what > 4) return BAD;
        Message it = messages.get(message);
        int fate = it.sort == 3 ? it.fate : NONE;
        return new int[] {it.sort, it.book.number, it.underWay, it.letters, fate}[what];
    }

    int latest() {
        if (latest == null) return NONE;
        out = latest;
        return out.length();
    }

    int count(int what) {
        if (what < 0 || what > 10) return BAD;
        int underWay = (int) messages.stream().filter(it -> it.underWay > 0).count();
        int[] all = {books.size(), samples.size(), draft.size(), tape.length(), out.length(),
            messages.size(), underWay, held(), came, twice, missing};
        return all[what];
    }

    /** For the makers of inputs: PIECES of the BOOKS, and what is in them. */
    Set<String> allPieces() {
        Set<String> all = new LinkedHashSet<>();
        for (Book book : books) all.addAll(book.pieces);
        return all;
    }

    int bookCount() {
        return books.size();
    }
}
