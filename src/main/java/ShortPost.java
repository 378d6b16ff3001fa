import java.util.Arrays;

/**
 * A post for small letters between two ends that hold books of pieces: letters are packed at the
 * least price in bits, written, read again, and sent over a wire that is late, doubles and loses.
 */
public final class ShortPost {
    public static final int BAD = -3, NO = -4, FULL = -5, NONE = -1;

    private static final int FED = 20;
    private static final int TAPE_LIMIT = 240;
    private static final int LETTER_LIMIT = 120;
    /** A book's number takes 5 bits, a size at most 13, one OWN of the whole letter 15 and its bytes. */
    private static final int WRITTEN_LIMIT = 125;

    private static final int PLAIN = 0, CUT = 1, RANKED = 2;
    private static final int BOOK_LIMIT = 24;
    private static final int PIECE_LIMIT = 20;
    private static final int PLAIN_SIZE = 200;
    private static final int CUT_SHORTEST = 2, CUT_LONGEST = 16;
    private static final int ROW_LIMIT = PIECE_LIMIT * CUT_LONGEST;

    private static final int OWN = 0, TOLD = 1, FAR = 2, WHOLE = 3;
    private static final int KIND_BITS = 2;
    private static final int BOOK_BITS = 5;
    /** No copy of fewer bytes is a TOLD or a FAR; 2 less than its size is what is written. */
    private static final int COPY_SHORTEST = 3, COPY_LESS = 2;
    private static final int GAMMA_BITS = 8;
    /** No letter costs so much: one OWN of 120 bytes costs 975. */
    private static final int BEYOND_PRICES = 1000000;

    private static final int ENDS_TOO_SOON = 1, NO_SUCH_BOOK = 2, NUMBER_TOO_GREAT = 3;
    private static final int LETTER_TOO_LONG = 4, PART_CAN_NOT_BE = 5, NOT_FILL = 6;
    private static final int FAULT_BASE = -100;

    private static final int SAMPLE_LIMIT = 8;
    private static final int SAMPLE_SIZE = 40;
    private static final int CANDIDATE_LIMIT = 8;
    private static final int CANDIDATE_SHORTEST = 3, CANDIDATE_LONGEST = 12;
    private static final int TRAINED_LIMIT = 6;

    private static final int IDLE = 0, OFFERED = 1, READY = 2, OVER = 3;
    private static final int SORT_OFFER = 0, SORT_YES = 1, SORT_NO = 2, SORT_LETTER = 3, SORT_GONE = 4;
    private static final int OPEN = 0, CAME = 1, LOST = 2;
    private static final int HELD_LIMIT = 4;
    private static final int MESSAGE_LIMIT = 200;
    private static final int UNDER_WAY_LIMIT = 3;

    private final Bytes tape;
    private final Bytes output;
    private final Pieces draft;
    private final Shelf shelf;
    /** What the latest pack() found; all others pack with the spare one, so that this stays. */
    private final Packer packed;
    private final Packer spare;
    private final Writer writer;
    private final Reader reader;
    private final Trainer trainer;
    private final Wire wire;
    private final Bytes envelope;
    private int packedBits;
    private int latestFault;

    public ShortPost() {
        tape = new Bytes(TAPE_LIMIT);
        output = new Bytes(TAPE_LIMIT);
        draft = new Pieces(PIECE_LIMIT * PLAIN_SIZE, PIECE_LIMIT);
        shelf = new Shelf();
        packed = new Packer();
        spare = new Packer();
        writer = new Writer();
        reader = new Reader(shelf);
        trainer = new Trainer(spare);
        wire = new Wire(shelf);
        envelope = new Bytes(WRITTEN_LIMIT);
        packedBits = NONE;
        latestFault = 0;
    }

    // ---- tape, OUT

    public int feed(int a, int b, int c, int d, int e) {
        if (tape.size > TAPE_LIMIT - FED) {
            return FULL;
        }
        feedNumber(a);
        feedNumber(b);
        feedNumber(c);
        feedNumber(d);
        feedNumber(e);
        return tape.size;
    }

    private void feedNumber(int number) {
        for (int shift = 24; shift >= 0; shift -= 8) {
            tape.add(number >>> shift);
        }
    }

    public int trim(int n) {
        if (n < 0 || n > tape.size) {
            return BAD;
        }
        tape.shorten(n);
        return n;
    }

    public int again() {
        if (output.size > TAPE_LIMIT) {
            return FULL;
        }
        tape.become(output);
        return tape.size;
    }

    public int out(int i) {
        return output.at(i);
    }

    // ---- books

    public int piece() {
        int answer = draftPiece();
        tape.clear();
        return answer;
    }

    private int draftPiece() {
        if (tape.size == 0 || tape.size > PLAIN_SIZE) {
            return BAD;
        }
        if (draft.number >= PIECE_LIMIT) {
            return FULL;
        }
        draft.append(tape, 0, tape.size);
        return draft.number;
    }

    public int book(int kind) {
        if (kind < PLAIN || kind > RANKED || !draft.fits(kind)) {
            return BAD;
        }
        if (shelf.isFull()) {
            return FULL;
        }
        if (draft.number == 0) {
            draft.append(tape, 0, 0);
        }
        int made = shelf.append(kind, draft);
        draft.clear();
        return made;
    }

    public int about(int book, int what) {
        Book of = shelf.find(book);
        if (of == null) {
            return BAD;
        }
        switch (what) {
            case 0: return of.kind;
            case 1: return of.pieces.number;
            case 2: return of.pieces.row.size;
            case 3: return of.state;
            case 4: return of.held ? 1 : 0;
            case 5: return of.lettersSent;
            default: return BAD;
        }
    }

    public int tell(int book, int k) {
        Book of = shelf.find(book);
        if (of == null || k < 0 || k >= of.pieces.number) {
            return BAD;
        }
        output.clear();
        output.append(of.pieces.row, of.pieces.start(k), of.pieces.length(k));
        return output.size;
    }

    public int isOf(int book, int kind) {
        Book of = shelf.find(book);
        if (of == null || kind < PLAIN || kind > RANKED) {
            return BAD;
        }
        // Each kind is one of all the lesser kinds, too.
        return of.kind >= kind ? 1 : 0;
    }

    // ---- packing

    public int pack(int book) {
        Book with = shelf.findOrNothing(book);
        int answer = BAD;
        if (with != null && tape.size <= LETTER_LIMIT) {
            packed.plan(tape, with.pieces, with.isRanked());
            writer.write(tape, with, packed, output);
            packedBits = writer.written;
            answer = packed.least(0);
        }
        tape.clear();
        return answer;
    }

    public int greedy(int book) {
        Book with = shelf.findOrNothing(book);
        int answer = BAD;
        if (with != null && tape.size <= LETTER_LIMIT) {
            answer = spare.greedyTotal(tape, with.pieces, with.isRanked());
        }
        tape.clear();
        return answer;
    }

    public int bits() {
        return packedBits;
    }

    public int part(int i, int what) {
        if (i < 0 || what < 0 || what > 2) {
            return BAD;
        }
        int at = packed.startOfPart(i);
        if (at == NONE) {
            return NONE;
        }
        switch (what) {
            case 0: return packed.kindAt(at);
            case 1: return packed.placeAt(at);
            default: return packed.lengthAt(at);
        }
    }

    public int rest(int i) {
        if (i < 0 || i > LETTER_LIMIT) {
            return BAD;
        }
        if (packedBits == NONE) {
            return NONE;
        }
        return i > packed.size ? BAD : packed.least(i);
    }

    public int unpack() {
        latestFault = reader.read(tape);
        tape.clear();
        if (latestFault != 0) {
            return FAULT_BASE - reader.place;
        }
        output.become(reader.letter);
        return output.size;
    }

    public int fault() {
        return latestFault;
    }

    // ---- training

    public int sample() {
        int answer = addSample();
        tape.clear();
        return answer;
    }

    private int addSample() {
        if (tape.size == 0 || tape.size > SAMPLE_SIZE) {
            return BAD;
        }
        return trainer.keepSample(tape) ? trainer.sampleNumber : FULL;
    }

    public int forget() {
        int were = trainer.sampleNumber;
        trainer.sampleNumber = 0;
        return were;
    }

    public int train(int kind, int pieces) {
        if (kind < CUT || kind > RANKED || pieces < 1 || pieces > TRAINED_LIMIT) {
            return BAD;
        }
        if (shelf.isFull()) {
            return FULL;
        }
        trainer.begin();
        boolean gaining = true;
        for (int round = 0; round < pieces && gaining; round++) {
            gaining = trainer.takeNext(kind == RANKED);
        }
        if (trainer.taken.number == 0) {
            return NONE;
        }
        trainer.keepGains();
        return shelf.append(kind, trainer.taken);
    }

    public int gained(int what) {
        if (what < 0) {
            return BAD;
        }
        if (trainer.keptPieces == 0) {
            return NONE;
        }
        switch (what) {
            case 0: return trainer.keptCandidates;
            case 1: return trainer.keptPieces;
            default: return trainer.keptGain(what - 2);
        }
    }

    public int price(int book) {
        Book with = shelf.findOrNothing(book);
        if (with == null) {
            return BAD;
        }
        return trainer.least(with.pieces, with.isRanked());
    }

    // ---- the wire

    public int offer(int book) {
        Book of = shelf.find(book);
        if (of == null) {
            return BAD;
        }
        if (of.state == READY || of.state == OVER) {
            return NO;
        }
        if (!wire.post(SORT_OFFER, of, NONE)) {
            return FULL;
        }
        of.state = OFFERED;
        return wire.sent;
    }

    public int send(int book) {
        int answer = sendLetter(shelf.findOrNothing(book));
        tape.clear();
        return answer;
    }

    private int sendLetter(Book with) {
        if (with == null || tape.size > LETTER_LIMIT) {
            return BAD;
        }
        if (with.state != READY) {
            return NO;
        }
        if (wire.isFull()) {
            return FULL;
        }
        spare.plan(tape, with.pieces, with.isRanked());
        writer.write(tape, with, spare, envelope);
        wire.postLetter(with, envelope);
        return wire.sent;
    }

    public int over(int book) {
        Book of = shelf.find(book);
        if (of == null) {
            return BAD;
        }
        if (of.state != READY) {
            return NO;
        }
        if (!wire.post(SORT_GONE, of, of.lettersSent)) {
            return FULL;
        }
        of.state = OVER;
        return wire.sent;
    }

    public int deliver(int message) {
        Message it = wire.find(message);
        if (it == null) {
            return BAD;
        }
        if (it.underWay == 0) {
            return NO;
        }
        it.underWay--;
        return wire.arrive(it) ? 0 : 1;
    }

    public int lose(int message) {
        Message it = wire.find(message);
        if (it == null) {
            return BAD;
        }
        if (it.underWay == 0) {
            return NO;
        }
        it.underWay--;
        wire.noteLoss(it);
        return it.underWay;
    }

    public int twice(int message) {
        Message it = wire.find(message);
        if (it == null) {
            return BAD;
        }
        if (it.underWay >= UNDER_WAY_LIMIT) {
            return NO;
        }
        it.underWay++;
        return it.underWay;
    }

    public int message(int message, int what) {
        Message it = wire.find(message);
        if (it == null) {
            return BAD;
        }
        switch (what) {
            case 0: return it.sort;
            case 1: return it.book.number;
            case 2: return it.underWay;
            case 3: return it.letters;
            case 4: return it.sort == SORT_LETTER ? it.fate : NONE;
            default: return BAD;
        }
    }

    public int latest() {
        if (wire.newest == null) {
            return NONE;
        }
        // BOOKS never change: read now, it is what it was as it came.
        reader.read(wire.newest.written);
        output.become(reader.letter);
        return output.size;
    }

    public int count(int what) {
        switch (what) {
            case 0: return shelf.number;
            case 1: return trainer.sampleNumber;
            case 2: return draft.number;
            case 3: return tape.size;
            case 4: return output.size;
            case 5: return wire.sent;
            case 6: return wire.messagesUnderWay();
            case 7: return shelf.heldBooks();
            case 8: return wire.came;
            case 9: return wire.repeated;
            case 10: return wire.missing;
            default: return BAD;
        }
    }

    // ---- numbers as bits

    /** W: how many bits a number has. */
    private static int width(int number) {
        int bits = 0;
        for (int left = number; left > 0; left >>= 1) {
            bits++;
        }
        return bits;
    }

    /** G: how many bits a number above 0 takes when it tells its own width. */
    private static int gamma(int number) {
        return number > 0 ? 2 * width(number) - 1 : 0;
    }

    /** A row of bytes that never goes beyond the room it was made with. */
    private static final class Bytes {
        private final int[] values;
        private int size;

        Bytes(int room) {
            values = new int[Math.max(room, 0)];
        }

        void clear() {
            size = 0;
        }

        void shorten(int n) {
            if (n >= 0 && n < size) {
                size = n;
            }
        }

        void add(int value) {
            if (size < values.length) {
                values[size] = value & 255;
                size++;
            }
        }

        int at(int i) {
            return i >= 0 && i < size ? values[i] : NONE;
        }

        void raise(int i, int mask) {
            if (i >= 0 && i < size) {
                values[i] |= mask & 255;
            }
        }

        void append(Bytes from, int start, int n) {
            for (int i = 0; i < n; i++) {
                add(from.at(start + i));
            }
        }

        void become(Bytes other) {
            clear();
            append(other, 0, other.size);
        }

        /** How many bytes from here on are those of the other from there on, most at the most. */
        int alike(int here, Bytes other, int there, int most) {
            if (here < 0 || there < 0) {
                return 0;
            }
            int n = 0;
            while (n < most && here + n < size && there + n < other.size
                    && values[here + n] == other.values[there + n]) {
                n++;
            }
            return n;
        }
    }

    /** PIECES one behind the other, which is THE ROW, and the END of each. */
    private static final class Pieces {
        private final Bytes row;
        private final int[] ends;
        private int number;

        Pieces(int rowRoom, int pieceRoom) {
            row = new Bytes(rowRoom);
            ends = new int[Math.max(pieceRoom, 0)];
        }

        void clear() {
            row.clear();
            number = 0;
        }

        void append(Bytes from, int start, int n) {
            if (number < ends.length) {
                row.append(from, start, n);
                ends[number] = row.size;
                number++;
            }
        }

        void dropLast() {
            if (number > 0) {
                number--;
                row.shorten(start(number));
            }
        }

        int start(int k) {
            return k > 0 && k <= number ? ends[k - 1] : 0;
        }

        int end(int k) {
            return k >= 0 && k < number ? ends[k] : 0;
        }

        int length(int k) {
            if (k < 0 || k >= number) {
                return 0;
            }
            return k == 0 ? ends[0] : ends[k] - ends[k - 1];
        }

        /** The END of the PIECE in which a place is; 0 if it is in none. */
        int endAround(int place) {
            for (int k = 0; k < number; k++) {
                if (place < ends[k]) {
                    return ends[k];
                }
            }
            return 0;
        }

        boolean fits(int kind) {
            if (kind == PLAIN) {
                return number <= 1;
            }
            for (int k = 0; k < number; k++) {
                if (length(k) < CUT_SHORTEST || length(k) > CUT_LONGEST) {
                    return false;
                }
            }
            return number > 0;
        }

        Pieces copy() {
            Pieces made = new Pieces(row.size, number);
            for (int k = 0; k < number; k++) {
                made.append(row, start(k), length(k));
            }
            return made;
        }
    }

    /** A BOOK, with what it is to THE SENDER and to THE RECEIVER. */
    private static final class Book {
        private final int number;
        private final int kind;
        private final Pieces pieces;
        private int state = IDLE;
        private int lettersSent;
        private boolean held;
        private boolean going;
        private int lettersToAwait;
        /** LETTERS sent with it that came or were told lost. */
        private int lettersSettled;

        Book(int number, int kind, Pieces pieces) {
            this.number = number;
            this.kind = kind;
            this.pieces = pieces;
        }

        boolean isRanked() {
            return kind == RANKED;
        }

        void hold() {
            held = true;
            going = false;
        }

        void awaitLetters(int letters) {
            going = true;
            lettersToAwait = letters;
            releaseIfSettled();
        }

        void settleLetter() {
            lettersSettled++;
            releaseIfSettled();
        }

        private void releaseIfSettled() {
            if (going && lettersSettled >= lettersToAwait) {
                held = false;
            }
        }
    }

    /** All BOOKS, and the one that stands for none. */
    private static final class Shelf {
        private final Book[] books = new Book[BOOK_LIMIT];
        private int number;
        /** NONE has no bytes, needs no offer, and never goes. */
        private final Book nothing;

        Shelf() {
            nothing = new Book(NONE, PLAIN, new Pieces(0, 0));
            nothing.state = READY;
            nothing.held = true;
        }

        boolean isFull() {
            return number >= BOOK_LIMIT;
        }

        int append(int kind, Pieces pieces) {
            if (isFull()) {
                return FULL;
            }
            books[number] = new Book(number, kind, pieces.copy());
            number++;
            return number - 1;
        }

        Book find(int book) {
            return book >= 0 && book < number ? books[book] : null;
        }

        Book findOrNothing(int book) {
            return book == NONE ? nothing : find(book);
        }

        int heldBooks() {
            int held = 0;
            for (int i = 0; i < number; i++) {
                if (books[i].held) {
                    held++;
                }
            }
            return held;
        }
    }

    /**
     * Finds LEAST from the letter's last byte to its first. At each byte PARTS are tried in their
     * order (kind, place, size), and only a better one takes the place of an earlier one.
     */
    private static final class Packer {
        private final int[] prices = new int[LETTER_LIMIT + 1];
        private final int[] partsLeft = new int[LETTER_LIMIT + 1];
        private final int[] kinds = new int[LETTER_LIMIT + 1];
        private final int[] places = new int[LETTER_LIMIT + 1];
        private final int[] lengths = new int[LETTER_LIMIT + 1];
        /** How many bytes from a place of THE ROW, or of the letter, are those at the byte tried. */
        private final int[] rowRuns = new int[ROW_LIMIT + 1];
        private final int[] letterRuns = new int[LETTER_LIMIT + 1];
        private final int[] gammas = new int[LETTER_LIMIT + 1];
        private Bytes letter;
        private Pieces pieces;
        private int size;
        private int toldPlaces;

        Packer() {
            for (int n = 1; n <= LETTER_LIMIT; n++) {
                gammas[n] = gamma(n);
            }
        }

        void plan(Bytes ofLetter, Pieces withPieces, boolean ranked) {
            begin(ofLetter, withPieces);
            for (int i = size - 1; i >= 0; i--) {
                prices[i] = BEYOND_PRICES;
                followRow(i);
                followLetter(i);
                tryOwn(i);
                tryCopies(i, TOLD, rowRuns, toldPlaces, KIND_BITS + width(pieces.row.size));
                tryCopies(i, FAR, letterRuns, i, KIND_BITS + width(i));
                if (ranked) {
                    tryWhole(i);
                }
            }
        }

        /** What GREEDY takes at a byte does not tell how it came there: it, too, is found backward. */
        int greedyTotal(Bytes ofLetter, Pieces withPieces, boolean ranked) {
            begin(ofLetter, withPieces);
            for (int i = size - 1; i >= 0; i--) {
                followRow(i);
                followLetter(i);
                prices[i] = greedyFrom(i, ranked ? longestWhole() : NONE);
            }
            return prices[0];
        }

        private void begin(Bytes ofLetter, Pieces withPieces) {
            letter = ofLetter;
            pieces = withPieces;
            size = Math.min(letter.size, LETTER_LIMIT);
            toldPlaces = Math.min(pieces.row.size, ROW_LIMIT);
            prices[size] = 0;
            partsLeft[size] = 0;
            Arrays.fill(rowRuns, 0);
            Arrays.fill(letterRuns, 0);
        }

        /** Upward, so that the run at the next place is still that of the next byte. */
        private void followRow(int i) {
            int value = letter.at(i);
            for (int k = 0; k < pieces.number; k++) {
                int end = Math.min(pieces.end(k), toldPlaces);
                for (int place = pieces.start(k); place < end; place++) {
                    int behind = place + 1 < end ? rowRuns[place + 1] : 0;
                    rowRuns[place] = pieces.row.at(place) == value ? behind + 1 : 0;
                }
            }
        }

        private void followLetter(int i) {
            int value = letter.at(i);
            for (int place = 0; place < i; place++) {
                letterRuns[place] = letter.at(place) == value ? letterRuns[place + 1] + 1 : 0;
            }
        }

        private void tryOwn(int i) {
            for (int n = 1; n <= size - i; n++) {
                tryPart(i, OWN, NONE, n, KIND_BITS + gammas[n] + 8 * n);
            }
        }

        /** The price of a copy does not tell its place, so of each size the least place will do. */
        private void tryCopies(int i, int kind, int[] runs, int behind, int head) {
            int tried = COPY_SHORTEST - 1;
            for (int place = 0; place < behind; place++) {
                int most = kind == FAR ? Math.min(runs[place], i - place) : runs[place];
                for (int n = tried + 1; n <= most; n++) {
                    tryPart(i, kind, place, n, head + gammas[n - COPY_LESS]);
                }
                tried = Math.max(tried, most);
            }
        }

        private void tryWhole(int i) {
            for (int k = 0; k < pieces.number; k++) {
                int n = pieces.length(k);
                if (n > 0 && rowRuns[pieces.start(k)] == n) {
                    tryPart(i, WHOLE, k, n, KIND_BITS + gammas[k + 1]);
                }
            }
        }

        private void tryPart(int i, int kind, int place, int n, int bits) {
            int total = bits + prices[i + n];
            int parts = 1 + partsLeft[i + n];
            if (total < prices[i] || total == prices[i] && parts < partsLeft[i]) {
                prices[i] = total;
                partsLeft[i] = parts;
                kinds[i] = kind;
                places[i] = place;
                lengths[i] = n;
            }
        }

        /** The PIECE that GREEDY takes as a WHOLE; NONE if none can be. */
        private int longestWhole() {
            int whole = NONE;
            int longest = 0;
            for (int k = 0; k < pieces.number; k++) {
                int n = pieces.length(k);
                if (n > longest && rowRuns[pieces.start(k)] == n) {
                    whole = k;
                    longest = n;
                }
            }
            return whole;
        }

        private int greedyFrom(int i, int whole) {
            if (whole != NONE) {
                return KIND_BITS + gammas[whole + 1] + prices[i + pieces.length(whole)];
            }
            int told = 0;
            for (int place = 0; place < toldPlaces; place++) {
                told = Math.max(told, rowRuns[place]);
            }
            int far = 0;
            for (int place = 0; place < i; place++) {
                far = Math.max(far, Math.min(letterRuns[place], i - place));
            }
            int n = Math.max(told, far);
            if (n < COPY_SHORTEST) {
                return KIND_BITS + gammas[1] + 8 + prices[i + 1];
            }
            int placeBits = width(told >= far ? pieces.row.size : i);
            return KIND_BITS + placeBits + gammas[n - COPY_LESS] + prices[i + n];
        }

        int least(int i) {
            return i >= 0 && i <= size ? prices[i] : 0;
        }

        /** The byte at which a PART begins; NONE if there are not so many. */
        int startOfPart(int part) {
            if (part < 0 || part >= size) {
                return NONE;
            }
            int at = 0;
            for (int i = 0; i < part && at < size; i++) {
                at += lengths[at];
            }
            return at < size ? at : NONE;
        }

        int kindAt(int i) {
            return i >= 0 && i < size ? kinds[i] : NONE;
        }

        int placeAt(int i) {
            return i >= 0 && i < size ? places[i] : NONE;
        }

        int lengthAt(int i) {
            return i >= 0 && i < size ? lengths[i] : 0;
        }
    }

    /** Writes packed letters as bits. */
    private static final class Writer {
        private Bytes target;
        private int written;

        void write(Bytes letter, Book book, Packer plan, Bytes to) {
            target = to;
            target.clear();
            written = 0;
            put(book.number + 1, BOOK_BITS);
            putGamma(plan.size + 1);
            int at = 0;
            for (int part = 0; part < LETTER_LIMIT && at < plan.size; part++) {
                putPart(letter, book.pieces, plan, at);
                at += plan.lengthAt(at);
            }
        }

        private void putPart(Bytes letter, Pieces pieces, Packer plan, int at) {
            int kind = plan.kindAt(at);
            int place = plan.placeAt(at);
            int n = plan.lengthAt(at);
            put(kind, KIND_BITS);
            switch (kind) {
                case OWN:
                    putGamma(n);
                    putBytes(letter, at, n);
                    break;
                case TOLD:
                    put(place, width(pieces.row.size));
                    putGamma(n - COPY_LESS);
                    break;
                case FAR:
                    put(place, width(at));
                    putGamma(n - COPY_LESS);
                    break;
                default:
                    putGamma(place + 1);
                    break;
            }
        }

        private void putBytes(Bytes letter, int start, int n) {
            for (int i = 0; i < n; i++) {
                put(letter.at(start + i), 8);
            }
        }

        private void putGamma(int number) {
            put(number, gamma(number));
        }

        private void put(int number, int bits) {
            for (int shift = bits - 1; shift >= 0; shift--) {
                if ((written & 7) == 0) {
                    target.add(0);
                }
                if ((number >> shift & 1) != 0) {
                    target.raise(written >> 3, 128 >> (written & 7));
                }
                written++;
            }
        }
    }

    /** Reads written letters up to the first FAULT. */
    private static final class Reader {
        private final Shelf shelf;
        private final Bytes letter = new Bytes(LETTER_LIMIT);
        private Bytes source;
        private int at;
        private int end;
        private int size;
        private int fault;
        private int place;

        Reader(Shelf shelf) {
            this.shelf = shelf;
        }

        /** The FAULT, with its place in place; 0 without, the letter being in letter. */
        int read(Bytes written) {
            source = written;
            at = 0;
            end = 8 * written.size;
            fault = 0;
            place = 0;
            letter.clear();
            Book book = readBook();
            if (book == null) {
                return fault;
            }
            readSize();
            for (int part = 0; part < LETTER_LIMIT && fault == 0 && letter.size < size; part++) {
                readPart(book);
            }
            if (fault == 0) {
                readFill();
            }
            return fault;
        }

        private void note(int code, int where) {
            if (fault == 0) {
                fault = code;
                place = where;
            }
        }

        private Book readBook() {
            int number = readBits(BOOK_BITS);
            if (fault != 0) {
                return null;
            }
            Book book = shelf.findOrNothing(number - 1);
            if (book == null) {
                note(NO_SUCH_BOOK, 0);
            }
            return book;
        }

        private void readSize() {
            size = readGamma() - 1;
            if (size > LETTER_LIMIT) {
                note(LETTER_TOO_LONG, BOOK_BITS);
            }
        }

        private void readPart(Book book) {
            int first = at;
            int kind = readBits(KIND_BITS);
            if (fault != 0) {
                return;
            }
            switch (kind) {
                case OWN:
                    readOwn(first);
                    break;
                case TOLD:
                    readTold(first, book.pieces);
                    break;
                case FAR:
                    readFar(first);
                    break;
                default:
                    readWhole(first, book);
                    break;
            }
        }

        private void readOwn(int first) {
            int n = readGamma();
            if (fault != 0) {
                return;
            }
            if (n > LETTER_LIMIT || n > size - letter.size) {
                note(PART_CAN_NOT_BE, first);
            }
            for (int i = 0; i < n && fault == 0; i++) {
                int value = readBits(8);
                if (fault == 0) {
                    letter.add(value);
                }
            }
        }

        private void readTold(int first, Pieces pieces) {
            int from = readBits(width(pieces.row.size));
            int n = readGamma() + COPY_LESS;
            takeCopy(first, pieces.row, from, n, pieces.endAround(from));
        }

        private void readFar(int first) {
            int from = readBits(width(letter.size));
            int n = readGamma() + COPY_LESS;
            takeCopy(first, letter, from, n, letter.size);
        }

        private void takeCopy(int first, Bytes row, int from, int n, int behind) {
            if (fault != 0) {
                return;
            }
            if (from + n > behind || n > size - letter.size) {
                note(PART_CAN_NOT_BE, first);
                return;
            }
            letter.append(row, from, n);
        }

        private void readWhole(int first, Book book) {
            if (!book.isRanked()) {
                note(PART_CAN_NOT_BE, first);
                return;
            }
            int k = readGamma() - 1;
            if (fault != 0) {
                return;
            }
            if (k >= book.pieces.number || book.pieces.length(k) > size - letter.size) {
                note(PART_CAN_NOT_BE, first);
                return;
            }
            letter.append(book.pieces.row, book.pieces.start(k), book.pieces.length(k));
        }

        private void readFill() {
            int behind = at;
            boolean clean = end - behind < 8;
            for (int i = behind; i < end && clean; i++) {
                clean = readBits(1) == 0;
            }
            if (!clean) {
                note(NOT_FILL, behind);
            }
        }

        /** NONE once there is a FAULT. */
        private int readBits(int bits) {
            if (fault != 0 || bits > end - at) {
                note(ENDS_TOO_SOON, end);
                return NONE;
            }
            int value = 0;
            for (int i = 0; i < bits; i++) {
                int bit = source.at(at >> 3) >> (7 - (at & 7)) & 1;
                value = 2 * value + bit;
                at++;
            }
            return value;
        }

        /** NONE once there is a FAULT. */
        private int readGamma() {
            int first = at;
            for (int zeros = 0; zeros < GAMMA_BITS; zeros++) {
                int bit = readBits(1);
                if (bit == NONE) {
                    return NONE;
                }
                if (bit == 1) {
                    int low = readBits(zeros);
                    return low == NONE ? NONE : (1 << zeros) + low;
                }
            }
            note(NUMBER_TOO_GREAT, first);
            return NONE;
        }
    }

    /** A row of bytes of a SAMPLE, and in how many SAMPLES it is; it is moved, not made anew. */
    private static final class Candidate {
        private Bytes source;
        private int start;
        private int length;
        private int spread;

        Candidate(Bytes source) {
            this.source = source;
        }

        void set(Bytes ofSource, int atStart, int ofLength, int inSamples) {
            source = ofSource;
            start = atStart;
            length = ofLength;
            spread = inSamples;
        }

        void become(Candidate other) {
            set(other.source, other.start, other.length, other.spread);
        }

        /** Below 0 if this is ahead: the longer one, then the first by bytes; 0 if they are the same. */
        int order(Candidate other) {
            if (length != other.length) {
                return other.length - length;
            }
            int same = source.alike(start, other.source, other.start, length);
            return same == length ? 0 : source.at(start + same) - other.source.at(other.start + same);
        }

        int orderBySpread(Candidate other) {
            return spread != other.spread ? other.spread - spread : order(other);
        }
    }

    /** Keeps SAMPLES, and makes PIECES of them. */
    private static final class Trainer {
        private final Packer packer;
        private final Bytes[] samples = new Bytes[SAMPLE_LIMIT];
        private int sampleNumber;
        /** The best CANDIDATES so far, the first being the best. */
        private final Candidate[] candidates = new Candidate[CANDIDATE_LIMIT];
        private int found;
        private final Candidate probe;
        private final int[] longestIn = new int[SAMPLE_LIMIT];
        private final Pieces taken = new Pieces(TRAINED_LIMIT * CANDIDATE_LONGEST, TRAINED_LIMIT);
        private final int[] gains = new int[TRAINED_LIMIT];
        private int keptCandidates;
        private int keptPieces;

        Trainer(Packer packer) {
            this.packer = packer;
            for (int i = 0; i < SAMPLE_LIMIT; i++) {
                samples[i] = new Bytes(SAMPLE_SIZE);
            }
            probe = new Candidate(samples[0]);
            for (int i = 0; i < CANDIDATE_LIMIT; i++) {
                candidates[i] = new Candidate(samples[0]);
            }
        }

        boolean keepSample(Bytes row) {
            if (sampleNumber >= SAMPLE_LIMIT) {
                return false;
            }
            samples[sampleNumber].become(row);
            sampleNumber++;
            return true;
        }

        /** The LEAST PRICE of all SAMPLES together. */
        int least(Pieces pieces, boolean ranked) {
            int total = 0;
            for (int i = 0; i < sampleNumber; i++) {
                packer.plan(samples[i], pieces, ranked);
                total += packer.least(0);
            }
            return total;
        }

        void keepGains() {
            keptCandidates = found;
            keptPieces = taken.number;
        }

        int keptGain(int k) {
            return k >= 0 && k < keptPieces ? gains[k] : NONE;
        }

        void begin() {
            taken.clear();
            found = 0;
            for (int i = 0; i < sampleNumber; i++) {
                for (int start = 0; start < samples[i].size; start++) {
                    findAt(samples[i], start);
                }
            }
        }

        private void findAt(Bytes row, int start) {
            for (int i = 0; i < sampleNumber; i++) {
                longestIn[i] = longestAlike(row, start, samples[i]);
            }
            for (int n = CANDIDATE_SHORTEST; n <= CANDIDATE_LONGEST; n++) {
                int spread = 0;
                for (int i = 0; i < sampleNumber; i++) {
                    if (longestIn[i] >= n) {
                        spread++;
                    }
                }
                if (spread >= 2) {
                    probe.set(row, start, n, spread);
                    insertProbe();
                }
            }
        }

        private int longestAlike(Bytes row, int start, Bytes other) {
            int longest = 0;
            for (int place = 0; place < other.size && longest < CANDIDATE_LONGEST; place++) {
                longest = Math.max(longest, row.alike(start, other, place, CANDIDATE_LONGEST));
            }
            return longest;
        }

        private void insertProbe() {
            int at = 0;
            while (at < found && candidates[at].orderBySpread(probe) < 0) {
                at++;
            }
            boolean known = at < found && candidates[at].orderBySpread(probe) == 0;
            if (known || at >= CANDIDATE_LIMIT) {
                return;
            }
            found = Math.min(found + 1, CANDIDATE_LIMIT);
            for (int i = found - 1; i > at; i--) {
                candidates[i].become(candidates[i - 1]);
            }
            candidates[at].become(probe);
        }

        /** The CANDIDATE with the greatest GAIN becomes a PIECE; false if none gains. */
        boolean takeNext(boolean ranked) {
            int price = least(taken, ranked);
            int best = NONE;
            int bestGain = 0;
            for (int i = 0; i < found; i++) {
                int gain = gainOf(candidates[i], ranked, price);
                boolean ahead = best != NONE && gain == bestGain
                        && candidates[i].order(candidates[best]) < 0;
                if (gain > bestGain || ahead) {
                    best = i;
                    bestGain = gain;
                }
            }
            if (best == NONE || taken.number >= TRAINED_LIMIT) {
                return false;
            }
            gains[taken.number] = bestGain;
            appendPiece(candidates[best]);
            return true;
        }

        private void appendPiece(Candidate piece) {
            taken.append(piece.source, piece.start, piece.length);
        }

        private int gainOf(Candidate piece, boolean ranked, int price) {
            appendPiece(piece);
            int with = least(taken, ranked);
            taken.dropLast();
            return price - with - (KIND_BITS + gamma(piece.length) + 8 * piece.length);
        }
    }

    /** A MESSAGE on the wire. */
    private static final class Message {
        private final int sort;
        private final Book book;
        /** Of a LETTER its COUNT, of GONE how many were sent; else NONE. */
        private final int letters;
        private final Bytes written;
        private int underWay = 1;
        private int fate = OPEN;

        Message(int sort, Book book, int letters, Bytes written) {
            this.sort = sort;
            this.book = book;
            this.letters = letters;
            this.written = written;
        }
    }

    /** THE WIRE, and what its two ends do as MESSAGES come. */
    private static final class Wire {
        private final Shelf shelf;
        private final Message[] messages = new Message[MESSAGE_LIMIT];
        private final Bytes noLetter = new Bytes(0);
        /** The latest LETTER that came; null if none did. */
        private Message newest;
        private int sent;
        private int came;
        private int repeated;
        private int missing;

        Wire(Shelf shelf) {
            this.shelf = shelf;
        }

        boolean isFull() {
            return sent >= MESSAGE_LIMIT;
        }

        Message find(int message) {
            return message >= 0 && message < sent ? messages[message] : null;
        }

        int messagesUnderWay() {
            int underWay = 0;
            for (int i = 0; i < sent; i++) {
                if (messages[i].underWay > 0) {
                    underWay++;
                }
            }
            return underWay;
        }

        /** Whether there was room for one more MESSAGE. */
        boolean post(int sort, Book book, int letters) {
            return put(sort, book, letters, noLetter);
        }

        void postLetter(Book book, Bytes written) {
            Bytes copy = new Bytes(written.size);
            copy.become(written);
            if (put(SORT_LETTER, book, book.lettersSent, copy)) {
                book.lettersSent++;
            }
        }

        private boolean put(int sort, Book book, int letters, Bytes written) {
            if (isFull()) {
                return false;
            }
            messages[sent] = new Message(sort, book, letters, written);
            sent++;
            return true;
        }

        /** Whether every MESSAGE that answers it was sent. */
        boolean arrive(Message it) {
            switch (it.sort) {
                case SORT_OFFER:
                    return answerOffer(it.book);
                case SORT_YES:
                    return hearYes(it.book);
                case SORT_NO:
                    hearNo(it.book);
                    return true;
                case SORT_LETTER:
                    takeLetter(it);
                    return true;
                default:
                    it.book.awaitLetters(it.letters);
                    return true;
            }
        }

        private boolean answerOffer(Book book) {
            if (!book.held) {
                if (shelf.heldBooks() >= HELD_LIMIT) {
                    return post(SORT_NO, book, NONE);
                }
                book.hold();
            }
            return post(SORT_YES, book, NONE);
        }

        private boolean hearYes(Book book) {
            if (book.state == OFFERED) {
                book.state = READY;
            }
            return book.state != OVER || post(SORT_GONE, book, book.lettersSent);
        }

        private void hearNo(Book book) {
            if (book.state == OFFERED) {
                book.state = IDLE;
            }
        }

        private void takeLetter(Message it) {
            if (it.fate != OPEN) {
                repeated++;
                return;
            }
            it.fate = CAME;
            came++;
            if (it.book.held) {
                newest = it;
            } else {
                missing++;
            }
            it.book.settleLetter();
        }

        void noteLoss(Message it) {
            if (it.sort == SORT_LETTER && it.fate == OPEN && it.underWay == 0) {
                it.fate = LOST;
                it.book.settleLetter();
            }
        }
    }
}
