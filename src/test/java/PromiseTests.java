/** Every promise of the document by hand: ordinary inputs, the edges it names, wrong inputs. */
public final class PromiseTests {
    private static final int BAD = -3, NO = -4, FULL = -5, NONE = -1;
    private static final int LOWEST = Integer.MIN_VALUE, HIGHEST = Integer.MAX_VALUE;

    private static int wrong = 0;
    private static int promise = 0;

    private static void due(String what, int got, int want) {
        if (got != want) {
            wrong++;
            System.out.println("promise " + promise + ": " + what + " answered " + got + ", due is " + want);
        }
    }

    // ---- helpers

    private static int number(String row, int at) {
        int number = 0;
        for (int i = at; i < at + 4; i++) number = number << 8 | (i < row.length() ? row.charAt(i) : 0);
        return number;
    }

    /** The tape, empty so far, becomes a row of bytes. */
    private static void load(ShortPost x, String row) {
        for (int at = 0; at < row.length(); at += 20) {
            x.feed(number(row, at), number(row, at + 4), number(row, at + 8), number(row, at + 12), number(row, at + 16));
        }
        x.trim(row.length());
    }

    private static int piece(ShortPost x, String row) {
        load(x, row);
        return x.piece();
    }

    private static int book(ShortPost x, int kind, String... pieces) {
        for (String row : pieces) piece(x, row);
        return x.book(kind);
    }

    private static int pack(ShortPost x, String letter, int book) {
        load(x, letter);
        return x.pack(book);
    }

    private static int greedy(ShortPost x, String letter, int book) {
        load(x, letter);
        return x.greedy(book);
    }

    private static int sample(ShortPost x, String row) {
        load(x, row);
        return x.sample();
    }

    private static int send(ShortPost x, String letter, int book) {
        load(x, letter);
        return x.send(book);
    }

    /** What unpack() answers to bits, filled with 0 to whole bytes. */
    private static int unpack(ShortPost x, String spaced) {
        String bits = spaced.replace(" ", "");
        StringBuilder row = new StringBuilder();
        for (int i = 0; i < bits.length(); i += 8) {
            String eight = (bits.substring(i) + "00000000").substring(0, 8);
            row.append((char) Integer.parseInt(eight, 2));
        }
        load(x, row.toString());
        return x.unpack();
    }

    private static void outIs(ShortPost x, String want) {
        due("count(4)", x.count(4), want.length());
        for (int i = 0; i < want.length(); i++) due("out(" + i + ") for " + want, x.out(i), want.charAt(i));
        due("out behind " + want, x.out(want.length()), NONE);
    }

    /** OUT as bits, the filling too. */
    private static void bitsAre(ShortPost x, String spaced) {
        String want = spaced.replace(" ", "");
        StringBuilder bits = new StringBuilder();
        for (int i = 0; i < x.count(4); i++) {
            bits.append(Integer.toBinaryString(256 + x.out(i)).substring(1));
        }
        while (want.length() % 8 != 0) want += "0";
        due("OUT is " + bits + ", due " + want, bits.toString().equals(want) ? 1 : 0, 1);
    }

    private static void partIs(ShortPost x, int i, int kind, int p, int n) {
        due("part(" + i + ", 0)", x.part(i, 0), kind);
        due("part(" + i + ", 1)", x.part(i, 1), p);
        due("part(" + i + ", 2)", x.part(i, 2), n);
    }

    /** What OUT, THE PARTS and the rest are is not touched by a call. */
    private static void packedIs(ShortPost x, int parts, int bits, int rest) {
        due("part(" + parts + ", 0)", x.part(parts, 0), NONE);
        due("part(" + (parts - 1) + ", 0) is there", x.part(parts - 1, 0) >= 0 ? 1 : 0, 1);
        due("bits()", x.bits(), bits);
        due("rest(0)", x.rest(0), rest);
    }

    private static String many(String row, int times) {
        return row.repeat(times);
    }

    /** A row of bytes in which nothing of 3 bytes comes again: its pairs (a, b) all differ. */
    private static String strange(int size) {
        StringBuilder row = new StringBuilder();
        for (int i = 0; row.length() < size; i++) row.append((char) (128 + i)).append((char) i);
        return row.substring(0, size);
    }

    // ---- promises

    private static void newObject() {
        promise = 1;
        ShortPost x = new ShortPost();
        for (int what = 0; what <= 10; what++) due("count(" + what + ")", x.count(what), 0);
        due("out(0)", x.out(0), NONE);
        due("bits()", x.bits(), NONE);
        due("part(0, 0)", x.part(0, 0), NONE);
        due("rest(0)", x.rest(0), NONE);
        due("fault()", x.fault(), 0);
        due("gained(0)", x.gained(0), NONE);
        due("latest()", x.latest(), NONE);
        due("about(0, 0)", x.about(0, 0), BAD);
        due("message(0, 0)", x.message(0, 0), BAD);
        due("price(-1)", x.price(NONE), 0);
        due("BAD", ShortPost.BAD, BAD);
        due("NO", ShortPost.NO, NO);
        due("FULL", ShortPost.FULL, FULL);
        due("NONE", ShortPost.NONE, NONE);
    }

    private static void feed() {
        promise = 2;
        ShortPost x = new ShortPost();
        due("feed", x.feed(0x01020304, -1, LOWEST, HIGHEST, 0x80FF007F), 20);
        x.pack(NONE);
        x.again();
        x.unpack();
        int[] want = {1, 2, 3, 4, 255, 255, 255, 255, 128, 0, 0, 0, 127, 255, 255, 255, 128, 255, 0, 127};
        for (int i = 0; i < want.length; i++) due("out(" + i + ")", x.out(i), want[i]);
        for (int i = 1; i <= 12; i++) due("feed", x.feed(i, i, i, i, i), 20 * i);
        due("feed the full tape", x.feed(1, 1, 1, 1, 1), FULL);
        due("count(3)", x.count(3), 240);
        x.trim(221);
        due("feed 221", x.feed(1, 1, 1, 1, 1), FULL);
        due("count(3)", x.count(3), 221);
        x.trim(220);
        due("feed 220", x.feed(1, 1, 1, 1, 1), 240);
    }

    private static void trim() {
        promise = 3;
        ShortPost x = new ShortPost();
        due("trim(0) of nothing", x.trim(0), 0);
        due("trim(1) of nothing", x.trim(1), BAD);
        load(x, "abcdefghijklmnopqrst");
        due("trim(21)", x.trim(21), BAD);
        due("trim(-1)", x.trim(-1), BAD);
        due("trim lowest", x.trim(LOWEST), BAD);
        due("trim highest", x.trim(HIGHEST), BAD);
        due("count(3)", x.count(3), 20);
        due("trim(20)", x.trim(20), 20);
        due("trim(3)", x.trim(3), 3);
        due("trim(4)", x.trim(4), BAD);
        due("piece()", x.piece(), 1);
        x.book(0);
        x.tell(0, 0);
        outIs(x, "abc");
    }

    private static void again() {
        promise = 4;
        ShortPost x = new ShortPost();
        due("again() of nothing", x.again(), 0);
        book(x, 0, strange(200));
        x.tell(0, 0);
        load(x, "what was on the tape");
        due("again()", x.again(), 200);
        due("count(3)", x.count(3), 200);
        outIs(x, strange(200));
        due("piece()", x.piece(), 1);
        x.book(0);
        due("tell(1, 0)", x.tell(1, 0), 200);
        outIs(x, strange(200));
    }

    private static void out() {
        promise = 5;
        ShortPost x = new ShortPost();
        due("out(0)", x.out(0), NONE);
        book(x, 0, "\u00ff\u0000a");
        x.tell(0, 0);
        due("out(0)", x.out(0), 255);
        due("out(1)", x.out(1), 0);
        due("out(2)", x.out(2), 97);
        due("out(3)", x.out(3), NONE);
        due("out(-1)", x.out(-1), NONE);
        due("out lowest", x.out(LOWEST), NONE);
        due("out highest", x.out(HIGHEST), NONE);
    }

    private static void pieces() {
        promise = 6;
        ShortPost x = new ShortPost();
        due("piece of nothing", x.piece(), BAD);
        load(x, strange(201));
        due("piece of 201", x.piece(), BAD);
        due("count(3) after a refusal", x.count(3), 0);
        due("count(2) after a refusal", x.count(2), 0);
        for (int i = 1; i <= 20; i++) due("piece " + i, piece(x, strange(200)), i);
        due("piece of nothing, 20 there", x.piece(), BAD);
        due("piece 21", piece(x, "a"), FULL);
        due("count(3) after FULL", x.count(3), 0);
        due("count(2)", x.count(2), 20);
    }

    private static void books() {
        promise = 7;
        ShortPost x = new ShortPost();
        due("book(1) of nothing", x.book(1), BAD);
        due("book(2) of nothing", x.book(2), BAD);
        due("book(3)", x.book(3), BAD);
        due("book(-1)", x.book(-1), BAD);
        due("book(0) of nothing", x.book(0), 0);
        due("its pieces", x.about(0, 1), 1);
        due("its row", x.about(0, 2), 0);
        due("count(2)", x.count(2), 0);
        due("book(0) of two", book(x, 0, "ab", "abcdefghijklmnop"), BAD);
        due("count(2), the draft stays", x.count(2), 2);
        for (int kind : new int[] {-1, 3, LOWEST, HIGHEST}) due("book kind", x.book(kind), BAD);
        due("book(1) of 2 and 16", x.book(1), 1);
        due("count(2), the draft is empty", x.count(2), 0);
        due("book(1) of 1", book(x, 1, "a"), BAD);
        due("book(2) of 1", x.book(2), BAD);
        due("book(0) of 1", x.book(0), 2);
        due("book(2) of 17", book(x, 2, "abcdefghijklmnopq"), BAD);
        due("book(0) of 17", x.book(0), 3);
        for (int i = 0; i < 20; i++) piece(x, "piece " + (char) ('a' + i));
        due("book(2) of 20", x.book(2), 4);
        due("its row", x.about(4, 2), 140);
        for (int i = 5; i < 24; i++) due("book " + i, x.book(0), i);
        due("book 25", x.book(0), FULL);
        due("a bad book 25", x.book(1), BAD);
        due("a bad kind of book 25", x.book(9), BAD);
        due("book 25 of a piece", book(x, 1, "abc"), FULL);
        due("count(2), the draft stays", x.count(2), 1);
        due("count(0)", x.count(0), 24);
    }

    private static void about() {
        promise = 8;
        ShortPost x = new ShortPost();
        book(x, 2, "abc", "de");
        int[] want = {2, 2, 5, 0, 0, 0};
        for (int what = 0; what < 6; what++) due("about(0, " + what + ")", x.about(0, what), want[what]);
        for (int what : new int[] {-1, 6, LOWEST, HIGHEST}) due("about what", x.about(0, what), BAD);
        for (int book : new int[] {-1, 1, LOWEST, HIGHEST}) due("about whom", x.about(book, 0), BAD);
        book(x, 0, "abc");
        due("about(1, 0)", x.about(1, 0), 0);
        x.offer(0);
        due("OFFERED", x.about(0, 3), 1);
        x.deliver(0);
        due("HELD", x.about(0, 4), 1);
        due("still OFFERED", x.about(0, 3), 1);
        x.deliver(1);
        due("READY", x.about(0, 3), 2);
        send(x, "a", 0);
        send(x, "a", NONE);
        send(x, "a", 0);
        due("LETTERS", x.about(0, 5), 2);
        x.over(0);
        due("OVER", x.about(0, 3), 3);
        due("the other", x.about(1, 3), 0);
    }

    private static void tell() {
        promise = 9;
        ShortPost x = new ShortPost();
        book(x, 1, "abc", "de", "abcdefghijklmnop");
        due("tell(0, 1)", x.tell(0, 1), 2);
        outIs(x, "de");
        due("tell(0, 2)", x.tell(0, 2), 16);
        outIs(x, "abcdefghijklmnop");
        for (int k : new int[] {-1, 3, LOWEST, HIGHEST}) due("tell k", x.tell(0, k), BAD);
        for (int book : new int[] {-1, 1, LOWEST, HIGHEST}) due("tell whom", x.tell(book, 0), BAD);
        outIs(x, "abcdefghijklmnop");
        x.book(0);
        due("tell of no bytes", x.tell(1, 0), 0);
        outIs(x, "");
        due("tell(1, 1)", x.tell(1, 1), BAD);
    }

    private static void isOf() {
        promise = 10;
        ShortPost x = new ShortPost();
        for (int kind = 0; kind < 3; kind++) book(x, kind, "abc");
        for (int book = 0; book < 3; book++) {
            for (int kind = 0; kind < 3; kind++) {
                due("isOf(" + book + ", " + kind + ")", x.isOf(book, kind), kind <= book ? 1 : 0);
            }
        }
        for (int kind : new int[] {-1, 3, LOWEST, HIGHEST}) due("isOf kind", x.isOf(0, kind), BAD);
        for (int book : new int[] {-1, 3, LOWEST, HIGHEST}) due("isOf whom", x.isOf(book, 0), BAD);
    }

    private static void pack() {
        promise = 11;
        ShortPost x = new ShortPost();
        due("pack nothing", x.pack(NONE), 0);
        bitsAre(x, "00000 1");
        due("pack one byte", pack(x, "a", NONE), 11);
        bitsAre(x, "00000 010 00 1 01100001");
        book(x, 1, "abcd", "efgh");
        due("pack over an END", pack(x, "cdef", 0), 39);
        partIs(x, 0, 0, NONE, 4);
        due("pack to an END", pack(x, "bcd", 0), 7);
        partIs(x, 0, 1, 1, 3);
        bitsAre(x, "00001 00100 01 0001 1");
        due("count(3)", x.count(3), 0);
        due("pack a FAR", pack(x, "xyzwxyzw", NONE), 47);
        partIs(x, 0, 0, NONE, 4);
        partIs(x, 1, 2, 0, 4);
        bitsAre(x, "00000 0001001 00 00100 01111000 01111001 01111010 01110111 10 000 010");
        book(x, 2, "ab", "cd", "ab");
        due("pack a WHOLE of 2", pack(x, "cdab", 1), 8);
        partIs(x, 0, 3, 1, 2);
        partIs(x, 1, 3, 0, 2);
        bitsAre(x, "00010 00101 11 010 11 1");
        due("pack 120", pack(x, strange(120), NONE), 2 + 13 + 960);
        due("count(4)", x.count(4), 125);
        packedIs(x, 1, 5 + 13 + 975, 975);
        due("pack 121", pack(x, strange(121), NONE), BAD);
        due("count(3) after a refusal", x.count(3), 0);
        for (int book : new int[] {-2, 2, LOWEST, HIGHEST}) due("pack with", pack(x, "a", book), BAD);
        due("count(3) after a refusal", x.count(3), 0);
        packedIs(x, 1, 5 + 13 + 975, 975);
        due("count(4)", x.count(4), 125);
    }

    /** Where several rows of PARTS cost the same. */
    private static void packTies() {
        promise = 11;
        ShortPost x = new ShortPost();
        book(x, 1, "abc", "xabcy", "abcd");
        due("the least place", pack(x, "abc", 0), 7);
        partIs(x, 0, 1, 0, 3);
        book(x, 1, "abcdef");
        due("TOLD and FAR cost the same", pack(x, "abcdabcd", 1), 16);
        partIs(x, 0, 1, 0, 4);
        partIs(x, 1, 1, 0, 4);
        due("a FAR of 5 bits ahead of a TOLD of 6", pack(x, "abcabc", 1), 11);
        partIs(x, 1, 2, 0, 3);
        book(x, 2, "00", "11", "22", "abc");
        due("TOLD and WHOLE both cost 7", pack(x, "abc", 2), 7);
        partIs(x, 0, 1, 6, 3);
        book(x, 2, "00", "11", "abc");
        due("TOLD costs 6, WHOLE 5", pack(x, "abc", 3), 5);
        partIs(x, 0, 3, 2, 3);
        book(x, 2, "00", "ab", "ab", "cd", "abcd");
        due("WHOLE k of one price, fewest PARTS", pack(x, "abcd", 4), 7);
        partIs(x, 0, 3, 4, 4);
        due("the least k", pack(x, "ab", 4), 5);
        partIs(x, 0, 3, 1, 2);
        due("fewest PARTS: 39 + 6, not 29 + 5 + 11", pack(x, "aaaaaaa", NONE), 45);
        partIs(x, 0, 0, NONE, 4);
        partIs(x, 1, 2, 0, 3);
        due("part(2, 0)", x.part(2, 0), NONE);
        book(x, 0, "aaaaaaaa");
        due("the least n: 5 and 4, not 6 and 3", pack(x, "aaaaaaaaa", 5), 17);
        partIs(x, 0, 1, 0, 5);
        partIs(x, 1, 2, 0, 4);
    }

    /** Nothing of an earlier letter stays. */
    private static void packAgain() {
        promise = 11;
        ShortPost x = new ShortPost();
        book(x, 0, "xabcdef");
        due("pack abcdef", pack(x, "abcdef", 0), 2 + 3 + 5);
        due("pack zx", pack(x, "zx", 0), 2 + 3 + 16);
        due("pack xaaaa", pack(x, "xaaaa", NONE), 2 + 5 + 40);
        due("pack bXYb", pack(x, "bXYb", NONE), 2 + 5 + 32);
        partIs(x, 0, 0, NONE, 4);
        due("part(1, 0)", x.part(1, 0), NONE);
    }

    private static void greedy() {
        promise = 12;
        ShortPost x = new ShortPost();
        book(x, 2, "ab", "abc", "abc", "abcdef");
        pack(x, "zz", NONE);
        due("greedy nothing", x.greedy(NONE), 0);
        due("greedy OWN", greedy(x, "xyz", NONE), 33);
        due("the longest PIECE", greedy(x, "abcdef", 0), 2 + 5);
        due("the least k", greedy(x, "abc", 0), 2 + 3);
        due("a WHOLE ahead of a longer TOLD", greedy(x, "abcde", 0), 2 + 3 + 11 + 11);
        due("a TOLD", greedy(x, "bcde", 0), 2 + 4 + 3);
        book(x, 0, "abcdefgh");
        due("the greatest n, TOLD", greedy(x, "abcdexabcdef", 1), (2 + 4 + 3) + 11 + (2 + 4 + 5));
        due("the greatest n, FAR", greedy(x, "xabcdxabcd", 1), 11 + (2 + 4 + 3) + (2 + 3 + 3));
        due("TOLD ahead of FAR", greedy(x, many("abc", 6), 1), 7 + 7 + (2 + 3 + 5) + (2 + 4 + 5));
        due("as many: TOLD", greedy(x, "abcabc", 1), 7 + 7);
        due("greedy 120", greedy(x, strange(120), NONE), 1320);
        due("greedy 121", greedy(x, strange(121), NONE), BAD);
        due("count(3) after a refusal", x.count(3), 0);
        for (int book : new int[] {-2, 2, LOWEST, HIGHEST}) due("greedy with", greedy(x, "a", book), BAD);
        due("count(3) after a refusal", x.count(3), 0);
        packedIs(x, 1, 5 + 3 + 21, 21);
        bitsAre(x, "00000 011 00 010 01111010 01111010");
        book(x, 2, "abc", "abc");
        due("the least k of two alike", greedy(x, "abc", 2), 2 + 1);
    }

    private static void bits() {
        promise = 13;
        ShortPost x = new ShortPost();
        due("bits()", x.bits(), NONE);
        pack(x, "a", 0);
        due("bits() after a refusal", x.bits(), NONE);
        x.pack(NONE);
        due("bits() of nothing", x.bits(), 6);
        pack(x, "a", NONE);
        due("bits() of a", x.bits(), 19);
        greedy(x, "abc", NONE);
        sample(x, "abc");
        x.price(NONE);
        send(x, "abcdef", NONE);
        due("bits(), others do not pack", x.bits(), 19);
    }

    private static void part() {
        promise = 14;
        ShortPost x = new ShortPost();
        due("part(0, 3), nothing packed", x.part(0, 3), BAD);
        due("part(-1, 0), nothing packed", x.part(-1, 0), BAD);
        due("part(0, 0), nothing packed", x.part(0, 0), NONE);
        book(x, 2, "abcdef", "xyz");
        pack(x, "QxyzbcdeQxyzbcdeR", 0);
        partIs(x, 0, 0, NONE, 1);
        partIs(x, 1, 3, 1, 3);
        partIs(x, 2, 1, 1, 4);
        partIs(x, 3, 2, 0, 8);
        partIs(x, 4, 0, NONE, 1);
        due("part(5, 0)", x.part(5, 0), NONE);
        due("part highest", x.part(HIGHEST, 2), NONE);
        due("part(5, 3)", x.part(5, 3), BAD);
        due("part(0, -1)", x.part(0, -1), BAD);
        due("part lowest", x.part(LOWEST, 0), BAD);
        send(x, "a", NONE);
        greedy(x, "b", NONE);
        pack(x, "b", 7);
        partIs(x, 3, 2, 0, 8);
        x.pack(NONE);
        due("part(0, 0) of nothing", x.part(0, 0), NONE);
    }

    private static void rest() {
        promise = 15;
        ShortPost x = new ShortPost();
        due("rest(0), nothing packed", x.rest(0), NONE);
        due("rest(120), nothing packed", x.rest(120), NONE);
        due("rest(121), nothing packed", x.rest(121), BAD);
        due("rest(-1), nothing packed", x.rest(-1), BAD);
        book(x, 0, "abcdef");
        pack(x, "abcdabcd", 0);
        int own1 = 2 + 1 + 8, own2 = 2 + 3 + 16, told3 = 2 + 3 + 1, told4 = 2 + 3 + 3;
        int[] want = {told4 + told4, told3 + told4, own2 + told4, own1 + told4, told4, told3, own2, own1, 0};
        for (int i = 0; i < want.length; i++) due("rest(" + i + ")", x.rest(i), want[i]);
        due("rest(9)", x.rest(9), BAD);
        due("rest(120)", x.rest(120), BAD);
        due("rest highest", x.rest(HIGHEST), BAD);
        due("rest lowest", x.rest(LOWEST), BAD);
        greedy(x, "a", NONE);
        send(x, "a", NONE);
        sample(x, "a");
        x.price(NONE);
        due("rest(0), others do not pack", x.rest(0), 16);
        x.pack(NONE);
        due("rest(0) of nothing", x.rest(0), 0);
        due("rest(1) of nothing", x.rest(1), BAD);
        pack(x, strange(120), NONE);
        due("rest(120)", x.rest(120), 0);
    }

    private static void unpack() {
        promise = 16;
        ShortPost x = new ShortPost();
        book(x, 2, "abcd", "efgh", "ij");
        book(x, 0, "klmno");
        due("OWN", unpack(x, "00000 010 00 1 01100001"), 1);
        outIs(x, "a");
        String told = "01 0100 1", own = "00 1 01111111", whole = "11 011", far = "10 000 010";
        due("a row that is not LEAST", unpack(x, "00001 0001101" + told + own + whole + far
                + "00 1 00000000 00 1 11111111"), 12);
        outIs(x, "efg\u007fijefg\u007f\u0000\u00ff");
        due("PLAIN", unpack(x, "00010 00101 01 001 010"), 4);
        outIs(x, "lmno");
        due("a fault", unpack(x, "11111 1"), -100);
        due("count(3)", x.count(3), 0);
        outIs(x, "lmno");
        due("nothing", unpack(x, "00010 1"), 0);
        outIs(x, "");
        String letter = strange(120);
        pack(x, letter, 0);
        x.again();
        due("120", x.unpack(), 120);
        outIs(x, letter);
    }

    private static void faultIs(ShortPost x, int code, int place, String bits) {
        due("unpack of " + bits, unpack(x, bits), -100 - place);
        due("fault() of " + bits, x.fault(), code);
    }

    private static void faults() {
        promise = 17;
        ShortPost x = new ShortPost();
        book(x, 2, "abcd", "efgh", "ij");
        book(x, 0, "klmno");
        due("fault()", x.fault(), 0);
        faultIs(x, 1, 0, "");
        due("right", unpack(x, "00000 1"), 0);
        due("fault() of a right one", x.fault(), 0);
        faultIs(x, 1, 8, "00000 000");
        faultIs(x, 1, 24, "00000 011 00 010 01100001");
        faultIs(x, 1, 16, "00001 00100 01 0100");
        faultIs(x, 2, 0, "00011 1");
        faultIs(x, 2, 0, "11111 000");
        faultIs(x, 3, 5, "00000 00000000");
        faultIs(x, 3, 10, "00000 010 00 00000000");
        faultIs(x, 3, 16, "00001 00100 01 0000 00000000");
        faultIs(x, 4, 5, "00000 0000000 1 0000000");
        faultIs(x, 4, 5, "00000 000000 1111010");
        faultIs(x, 1, 24, "00000 000000 1111001 00 0000");
        send(x, "a", NONE);
        x.deliver(0);
        due("fault(), a LETTER was read", x.fault(), 1);
        due("right with all", unpack(x, "00010 00100 01 001 1"), 3);
        faultIs(x, 6, 16, "00010 00100 01 001 1 00000000");
        faultIs(x, 6, 6, "00000 1 01");
        faultIs(x, 6, 6, "00000 1 00 00000000");
        faultIs(x, 6, 19, "00000 010 00 1 01100001 00001");
        faultIs(x, 6, 19, "00000 010 00 1 01100001 00000 00000000");
    }

    private static void partFaults() {
        promise = 17;
        ShortPost x = new ShortPost();
        book(x, 2, "abcd", "efgh", "ij");
        book(x, 0, "klmno");
        book(x, 1, "klmno");
        // WHOLE without a RANKED one, as the kind is read: no bit comes behind it.
        faultIs(x, 5, 14, "00000 000010000 11");
        faultIs(x, 5, 14, "00010 000010000 11");
        faultIs(x, 5, 14, "00011 000010000 11");
        faultIs(x, 1, 16, "00001 000010000 11");
        faultIs(x, 5, 10, "00001 00100 11 00100");
        faultIs(x, 5, 10, "00001 00100 11 1");
        faultIs(x, 5, 8, "00000 010 00 010");
        faultIs(x, 5, 8, "00000 010 00 0000000 11111111");
        faultIs(x, 5, 10, "00001 00100 01 1010 1");
        faultIs(x, 5, 10, "00001 00100 01 0010 1");
        faultIs(x, 5, 10, "00001 00100 01 0000 010");
        faultIs(x, 5, 10, "00001 00101 01 0001 010");
        faultIs(x, 5, 10, "00000 00100 01 1");
        faultIs(x, 1, 16, "00000 000010000 01");
        faultIs(x, 5, 10, "00000 00100 10 1");
        String abc = "01100001 01100010 01100011";
        faultIs(x, 5, 39, "00000 00111 00 011" + abc + "10 01 1");
        faultIs(x, 5, 39, "00000 00111 00 011" + abc + "10 11 1");
        faultIs(x, 5, 39, "00000 00110 00 011" + abc + "10 00 1");
        due("FAR", unpack(x, "00000 00111 00 011" + abc + "10 00 1"), 6);
        outIs(x, "abcabc");
    }

    private static void samples() {
        promise = 18;
        ShortPost x = new ShortPost();
        due("sample of nothing", x.sample(), BAD);
        due("sample of 41", sample(x, strange(41)), BAD);
        due("count(3) after a refusal", x.count(3), 0);
        due("sample of 40", sample(x, strange(40)), 1);
        for (int i = 2; i <= 8; i++) due("sample " + i, sample(x, "a"), i);
        due("sample of nothing, 8 there", x.sample(), BAD);
        due("sample 9", sample(x, "a"), FULL);
        due("count(3) after FULL", x.count(3), 0);
        due("count(1)", x.count(1), 8);
        due("price", x.price(NONE), 2 + 11 + 320 + 7 * 11);
    }

    private static void forget() {
        promise = 19;
        ShortPost x = new ShortPost();
        due("forget nothing", x.forget(), 0);
        sample(x, "abcdef");
        sample(x, "abcdef");
        due("forget two", x.forget(), 2);
        due("count(1)", x.count(1), 0);
        due("price", x.price(NONE), 0);
        due("train", x.train(1, 1), NONE);
        due("sample", sample(x, "abc"), 1);
        due("price", x.price(NONE), 2 + 3 + 24);
        sample(x, "abcdef");
        due("train", x.train(2, 6), 0);
        due("CANDIDATES: abc alone is in both", x.gained(0), 1);
        due("its size", x.tell(0, 0), 3);
    }

    private static void train() {
        promise = 20;
        ShortPost x = new ShortPost();
        due("train without SAMPLES", x.train(2, 1), NONE);
        sample(x, "abcdef");
        due("train with one SAMPLE", x.train(2, 1), NONE);
        sample(x, "abcdef");
        due("train CUT", x.train(1, 6), 0);
        due("train RANKED", x.train(2, 6), 1);
        for (int book = 0; book < 2; book++) {
            due("its KIND", x.about(book, 0), 1 + book);
            due("its PIECES", x.about(book, 1), 1);
            x.tell(book, 0);
            outIs(x, "abcdef");
        }
        for (int kind : new int[] {0, 3, -1, LOWEST, HIGHEST}) due("train kind", x.train(kind, 1), BAD);
        for (int most : new int[] {0, 7, -1, LOWEST, HIGHEST}) due("train pieces", x.train(1, most), BAD);
        x.forget();
        sample(x, "abcd1\u00e5\u00e6\u00e7\u00e8");
        sample(x, "abcd2\u00e5\u00e6\u00e7\u00e8");
        due("train one", x.train(2, 1), 2);
        x.tell(2, 0);
        outIs(x, "abcd");
        due("train six", x.train(2, 6), 3);
        due("its PIECES", x.about(3, 1), 2);
        x.tell(3, 1);
        outIs(x, "\u00e5\u00e6\u00e7\u00e8");
        x.forget();
        sample(x, "1234xyz5678");
        sample(x, "abcdxyzefgh");
        due("train, a GAIN of -1", x.train(1, 6), NONE);
        due("train, a GAIN of 3", x.train(2, 6), 4);
        due("gained(2)", x.gained(2), 3);
        x.forget();
        sample(x, "xyz1234");
        sample(x, "ABCDEFGHIJKLMNOPxyzabcdefghijklmnop");
        due("train, a GAIN of 0", x.train(1, 6), NONE);
        due("train, a GAIN of 4", x.train(2, 6), 5);
        due("gained(2)", x.gained(2), 4);
        for (int i = 6; i < 24; i++) x.book(0);
        due("train book 25", x.train(2, 6), FULL);
        due("a bad one", x.train(2, 7), BAD);
        due("count(0)", x.count(0), 24);
    }

    /** A SAMPLE in which a row is twice counts once; of many rows the 8 best are CANDIDATES. */
    private static void candidates() {
        promise = 20;
        ShortPost x = new ShortPost();
        sample(x, "abcabcabcabc");
        sample(x, "12345678");
        due("in one SAMPLE alone", x.train(2, 6), NONE);
        x.forget();
        String longRow = "qwertyuiopas";
        for (int i = 0; i < 2; i++) sample(x, longRow + "dfg" + i);
        for (int i = 0; i < 6; i++) sample(x, "" + (char) ('A' + i) + "mnopqrstuvw" + (char) ('a' + i));
        due("train", x.train(2, 6), 0);
        due("CANDIDATES", x.gained(0), 8);
        due("the row of two SAMPLES is none", x.gained(1), 1);
        x.tell(0, 0);
        outIs(x, "mnopqrstuvw");
        x.forget();
        for (int i = 0; i < 2; i++) sample(x, "abcdefghijklmnopq");
        due("no CANDIDATE is longer than 12", x.train(2, 1), 1);
        due("its size", x.tell(1, 0), 12);
        outIs(x, "abcdefghijkl");
    }

    /** quapng (in two SAMPLES) and lmwb (in three) both gain 51: the longest is taken. */
    private static void trainTies() {
        promise = 20;
        ShortPost x = new ShortPost();
        sample(x, "FfjadjilmwbOquapng");
        sample(x, "quapngquapng");
        sample(x, "lmwbTwkqms");
        sample(x, "Rlmwb");
        due("price(NONE)", x.price(NONE), 155 + 65 + 89 + 47);
        due("train", x.train(2, 6), 0);
        due("gained(1)", x.gained(1), 2);
        due("gained(2)", x.gained(2), 51);
        due("gained(3)", x.gained(3), 47);
        x.tell(0, 0);
        outIs(x, "quapng");
        x.tell(0, 1);
        outIs(x, "lmwb");
    }

    private static void gained() {
        promise = 21;
        ShortPost x = new ShortPost();
        due("gained(-1), none", x.gained(-1), BAD);
        for (int what : new int[] {0, 1, 2, HIGHEST}) due("gained, none", x.gained(what), NONE);
        sample(x, "abcdef");
        sample(x, "abcdef");
        x.train(1, 6);
        int[] cut = {8, 1, 110 - 20 - 55, NONE, NONE};
        for (int what = 0; what < 5; what++) due("gained(" + what + ") of CUT", x.gained(what), cut[what]);
        x.train(2, 6);
        due("gained(2) of RANKED", x.gained(2), 110 - 6 - 55);
        x.forget();
        x.train(2, 6);
        due("gained(2), no new BOOK", x.gained(2), 110 - 6 - 55);
        sample(x, "abcd1efgh");
        sample(x, "abcd2efgh");
        x.train(2, 6);
        int[] two = {6, 2, 23, 23, NONE};
        for (int what = 0; what < 5; what++) due("gained(" + what + ") of two", x.gained(what), two[what]);
        due("gained lowest", x.gained(LOWEST), BAD);
        due("gained highest", x.gained(HIGHEST), NONE);
        x.train(2, 1);
        due("gained(3) of one", x.gained(3), NONE);
    }

    private static void price() {
        promise = 22;
        ShortPost x = new ShortPost();
        book(x, 2, "abcdef");
        book(x, 0, "abcdef");
        due("price of nothing", x.price(0), 0);
        sample(x, "abcdef");
        sample(x, "abcdefabcdef");
        due("price(NONE)", x.price(NONE), 55 + 55 + 10);
        due("price(0)", x.price(0), 3 + 6);
        due("price(1)", x.price(1), 10 + 20);
        for (int book : new int[] {-2, 2, LOWEST, HIGHEST}) due("price with", x.price(book), BAD);
        load(x, "xyz");
        x.price(0);
        due("count(3)", x.count(3), 3);
    }

    // ---- the wire

    private static void offer() {
        promise = 23;
        ShortPost x = new ShortPost();
        book(x, 0, "abc");
        for (int book : new int[] {-1, 1, LOWEST, HIGHEST}) due("offer whom", x.offer(book), BAD);
        due("offer IDLE", x.offer(0), 1);
        due("offer OFFERED", x.offer(0), 2);
        due("its sort", x.message(1, 0), 0);
        due("its BOOK", x.message(1, 1), 0);
        x.deliver(1);
        x.deliver(2);
        due("offer READY", x.offer(0), NO);
        x.over(0);
        due("offer OVER", x.offer(0), NO);
        due("count(5)", x.count(5), 4);
        book(x, 0, "abc");
        for (int sent = 5; sent <= 200; sent++) due("offer", x.offer(1), sent);
        due("offer, 200 sent", x.offer(1), FULL);
        due("offer OVER, 200 sent", x.offer(0), NO);
        due("offer whom, 200 sent", x.offer(2), BAD);
        book(x, 0, "abc");
        due("offer IDLE, 200 sent", x.offer(2), FULL);
        due("it is IDLE still", x.about(2, 3), 0);
    }

    private static void sends() {
        promise = 24;
        ShortPost x = new ShortPost();
        book(x, 0, "abc");
        pack(x, "abcabc", 0);
        due("send NONE", send(x, "xyz", NONE), 1);
        due("count(3)", x.count(3), 0);
        due("its sort", x.message(0, 0), 3);
        due("its BOOK", x.message(0, 1), NONE);
        due("its COUNT", x.message(0, 3), 0);
        due("send with IDLE", send(x, "xyz", 0), NO);
        due("count(3) after NO", x.count(3), 0);
        x.offer(0);
        due("send with OFFERED", send(x, "xyz", 0), NO);
        due("send 121 with OFFERED", send(x, strange(121), 0), BAD);
        due("count(3) after BAD", x.count(3), 0);
        for (int book : new int[] {-2, 1, LOWEST, HIGHEST}) due("send with", send(x, "a", book), BAD);
        x.deliver(1);
        x.deliver(2);
        due("send 120", send(x, strange(120), 0), 4);
        due("send nothing", x.send(0), 5);
        due("send NONE", send(x, "uvw", NONE), 6);
        due("COUNT of the second", x.message(4, 3), 1);
        due("COUNT of NONE's second", x.message(5, 3), 1);
        due("LETTERS", x.about(0, 5), 2);
        packedIs(x, 2, 5 + 5 + 10, 10);
        bitsAre(x, "00001 00111 01 00 1 01 00 1");
        x.deliver(3);
        x.latest();
        outIs(x, strange(120));
        x.over(0);
        due("send with OVER", send(x, "a", 0), NO);
        for (int sent = 8; sent <= 200; sent++) due("send", x.send(NONE), sent);
        due("send, 200 sent", send(x, "a", NONE), FULL);
        due("count(3) after FULL", x.count(3), 0);
        due("send with OVER, 200 sent", send(x, "a", 0), NO);
        due("LETTERS", x.about(0, 5), 2);
    }

    private static void over() {
        promise = 25;
        ShortPost x = new ShortPost();
        book(x, 0, "abc");
        for (int book : new int[] {-1, 1, LOWEST, HIGHEST}) due("over whom", x.over(book), BAD);
        due("over IDLE", x.over(0), NO);
        x.offer(0);
        due("over OFFERED", x.over(0), NO);
        x.deliver(0);
        x.deliver(1);
        x.send(0);
        x.send(0);
        due("over READY", x.over(0), 5);
        due("its sort", x.message(4, 0), 4);
        due("its BOOK", x.message(4, 1), 0);
        due("how many", x.message(4, 3), 2);
        due("over OVER", x.over(0), NO);
        book(x, 0, "abc");
        x.offer(1);
        x.deliver(5);
        x.deliver(6);
        while (x.count(5) < 200) x.send(NONE);
        due("over, 200 sent", x.over(1), FULL);
        due("it is READY still", x.about(1, 3), 2);
        due("over OVER, 200 sent", x.over(0), NO);
    }

    private static void deliver() {
        promise = 26;
        ShortPost x = new ShortPost();
        for (int i = 0; i < 6; i++) book(x, 0, "abc");
        for (int message : new int[] {-1, 0, LOWEST, HIGHEST}) due("deliver what", x.deliver(message), BAD);
        for (int i = 0; i < 5; i++) x.offer(i);
        for (int i = 0; i < 5; i++) due("deliver OFFER", x.deliver(i), 0);
        due("deliver it again", x.deliver(0), NO);
        for (int i = 0; i < 5; i++) due("YES or NO", x.message(5 + i, 0), i < 4 ? 1 : 2);
        due("HELD", x.count(7), 4);
        due("the fifth is not", x.about(4, 4), 0);
        due("deliver NO", x.deliver(9), 0);
        due("IDLE", x.about(4, 3), 0);
        x.twice(0);
        due("deliver the OFFER of a HELD one", x.deliver(0), 0);
        due("YES", x.message(10, 0), 1);
        due("deliver YES", x.deliver(5), 0);
        due("READY", x.about(0, 3), 2);
        due("deliver YES to READY", x.deliver(10), 0);
        due("READY still", x.about(0, 3), 2);
        due("count(5)", x.count(5), 11);
        x.offer(4);
        x.twice(9);
        due("deliver a late NO", x.deliver(9), 0);
        due("OFFERED is IDLE", x.about(4, 3), 0);
        x.over(0);
        due("deliver GONE at once", x.deliver(12), 0);
        due("not HELD", x.about(0, 4), 0);
        due("deliver the second OFFER", x.deliver(11), 0);
        due("HELD", x.about(4, 4), 1);
        due("deliver YES to IDLE", x.deliver(13), 0);
        due("IDLE still", x.about(4, 3), 0);
        x.twice(9);
        x.deliver(6);
        x.twice(9);
        due("NO of another", x.deliver(9), 0);
        due("READY stays", x.about(1, 3), 2);
    }

    /** An OVER one is HELD by a late OFFER, and goes by one more GONE. */
    private static void lateOffers() {
        promise = 26;
        ShortPost x = new ShortPost();
        book(x, 0, "abc");
        x.offer(0);
        x.twice(0);
        x.twice(0);
        x.deliver(0);
        x.deliver(1);
        send(x, "abcabc", 0);
        send(x, "abcabd", 0);
        x.over(0);
        x.deliver(4);
        due("HELD, LETTERS are under way", x.about(0, 4), 1);
        due("the OFFER of one that is GOING", x.deliver(0), 0);
        due("YES", x.message(5, 0), 1);
        x.deliver(3);
        due("HELD, a LETTER is under way", x.about(0, 4), 1);
        x.deliver(2);
        due("not HELD, both came", x.about(0, 4), 0);
        due("MISSING", x.count(10), 0);
        due("deliver the late OFFER", x.deliver(0), 0);
        due("HELD, not GOING", x.about(0, 4), 1);
        due("YES", x.message(6, 0), 1);
        due("deliver YES to OVER", x.deliver(6), 0);
        due("GONE", x.message(7, 0), 4);
        due("how many", x.message(7, 3), 2);
        due("deliver YES to OVER", x.deliver(5), 0);
        due("GONE", x.message(8, 0), 4);
        x.twice(4);
        due("deliver the first GONE again", x.deliver(4), 0);
        due("not HELD", x.about(0, 4), 0);
        due("OVER", x.about(0, 3), 3);
        x.deliver(7);
        x.deliver(8);
        due("count(6)", x.count(6), 0);
        due("count(5)", x.count(5), 9);
    }

    private static void deliverWithoutRoom() {
        promise = 26;
        ShortPost x = new ShortPost();
        for (int i = 0; i < 6; i++) book(x, 0, "abc");
        for (int i = 0; i < 4; i++) x.offer(i);
        for (int i = 0; i < 3; i++) x.deliver(i);
        x.deliver(4);
        x.over(0);
        x.twice(4);
        x.offer(4);
        x.offer(5);
        while (x.count(5) < 200) x.send(NONE);
        due("YES is not sent", x.deliver(3), 1);
        due("HELD", x.about(3, 4), 1);
        due("NO is not sent", x.deliver(8), 1);
        due("not HELD", x.about(4, 4), 0);
        due("GONE is not sent", x.deliver(4), 1);
        due("YES is delivered", x.message(4, 2), 0);
        due("a YES that wants no answer", x.deliver(5), 0);
        due("READY", x.about(1, 3), 2);
        due("a GONE", x.deliver(7), 0);
        due("not HELD", x.about(0, 4), 0);
        due("a LETTER", x.deliver(10), 0);
        due("came", x.count(8), 1);
        due("count(5)", x.count(5), 200);
    }

    private static void lose() {
        promise = 27;
        ShortPost x = new ShortPost();
        for (int message : new int[] {-1, 0, LOWEST, HIGHEST}) due("lose what", x.lose(message), BAD);
        book(x, 0, "abc");
        x.offer(0);
        due("lose OFFER", x.lose(0), 0);
        due("lose it again", x.lose(0), NO);
        due("its fate", x.message(0, 4), NONE);
        x.offer(0);
        x.deliver(1);
        x.deliver(2);
        x.send(0);
        x.send(0);
        x.over(0);
        x.deliver(5);
        x.twice(3);
        due("lose one of two", x.lose(3), 1);
        due("not told lost", x.message(3, 4), 0);
        due("lose the other", x.lose(3), 0);
        due("told lost", x.message(3, 4), 2);
        x.twice(3);
        due("lose a lost one", x.lose(3), 0);
        due("told lost", x.message(3, 4), 2);
        due("HELD: it counts once", x.about(0, 4), 1);
        x.twice(4);
        x.deliver(4);
        due("not HELD: one lost, one came", x.about(0, 4), 0);
        due("lose one that came", x.lose(4), 0);
        due("it came", x.message(4, 4), 1);
        x.twice(3);
        due("deliver a lost one", x.deliver(3), 0);
        due("told lost still", x.message(3, 4), 2);
        due("TWICE", x.count(9), 1);
        due("came", x.count(8), 1);
    }

    private static void twice() {
        promise = 28;
        ShortPost x = new ShortPost();
        for (int message : new int[] {-1, 0, LOWEST, HIGHEST}) due("twice what", x.twice(message), BAD);
        send(x, "abc", NONE);
        due("twice", x.twice(0), 2);
        due("thrice", x.twice(0), 3);
        due("no more", x.twice(0), NO);
        due("count(6), one MESSAGE", x.count(6), 1);
        for (int left = 2; left >= 0; left--) {
            x.deliver(0);
            due("left", x.message(0, 2), left);
        }
        due("it is under way no more", x.deliver(0), NO);
        due("once more", x.twice(0), 1);
        due("deliver it", x.deliver(0), 0);
        due("TWICE", x.count(9), 3);
        due("came", x.count(8), 1);
    }

    private static void message() {
        promise = 29;
        ShortPost x = new ShortPost();
        book(x, 0, "abc");
        for (int i = 0; i < 5; i++) book(x, 0, "abc");
        for (int i = 0; i < 5; i++) x.offer(i);
        for (int i = 0; i < 5; i++) x.deliver(i);
        x.deliver(5);
        x.send(0);
        x.send(0);
        x.over(0);
        x.send(NONE);
        x.twice(11);
        x.deliver(10);
        x.lose(13);
        int[][] want = {{0, 0, 0, NONE, NONE}, {1, 1, 1, NONE, NONE}, {2, 4, 1, NONE, NONE}, {3, 0, 0, 0, 1},
            {3, 0, 2, 1, 0}, {4, 0, 1, 2, NONE}, {3, NONE, 0, 0, 2}};
        int[] of = {0, 6, 9, 10, 11, 12, 13};
        for (int i = 0; i < of.length; i++) {
            for (int what = 0; what < 5; what++) {
                due("message(" + of[i] + ", " + what + ")", x.message(of[i], what), want[i][what]);
            }
        }
        for (int what : new int[] {-1, 5, LOWEST, HIGHEST}) due("message what", x.message(0, what), BAD);
        for (int message : new int[] {-1, 14, LOWEST, HIGHEST}) due("message which", x.message(message, 0), BAD);
    }

    private static void latest() {
        promise = 30;
        ShortPost x = new ShortPost();
        book(x, 2, "abcdef", "gh");
        due("latest()", x.latest(), NONE);
        x.offer(0);
        x.deliver(0);
        x.deliver(1);
        send(x, "abcdefghxabcdefgh", 0);
        send(x, "ghgh", 0);
        x.send(NONE);
        x.tell(0, 1);
        due("latest(), none came", x.latest(), NONE);
        outIs(x, "gh");
        x.twice(3);
        x.deliver(3);
        due("latest()", x.latest(), 4);
        outIs(x, "ghgh");
        x.deliver(2);
        due("an earlier one that came later", x.latest(), 17);
        outIs(x, "abcdefghxabcdefgh");
        x.deliver(3);
        due("TWICE is not the latest", x.latest(), 17);
        x.deliver(4);
        due("no bytes", x.latest(), 0);
        outIs(x, "");
    }

    private static void count() {
        promise = 31;
        ShortPost x = new ShortPost();
        for (int what : new int[] {-1, 11, LOWEST, HIGHEST}) due("count what", x.count(what), BAD);
        book(x, 0, "abc");
        book(x, 0, "abd");
        for (int i = 0; i < 3; i++) sample(x, "abc");
        for (int i = 0; i < 4; i++) piece(x, "abc");
        x.offer(0);
        x.deliver(0);
        x.deliver(1);
        for (int i = 0; i < 4; i++) x.send(0);
        x.twice(2);
        x.deliver(2);
        x.deliver(2);
        x.deliver(3);
        x.lose(4);
        x.twice(4);
        x.twice(4);
        x.tell(1, 0);
        load(x, "abcdefg");
        int[] want = {2, 3, 4, 7, 3, 6, 2, 1, 2, 1, 0};
        for (int what = 0; what <= 10; what++) due("count(" + what + ")", x.count(what), want[what]);
    }

    public static void main(String[] args) {
        newObject();
        feed();
        trim();
        again();
        out();
        pieces();
        books();
        about();
        tell();
        isOf();
        pack();
        packTies();
        packAgain();
        greedy();
        bits();
        part();
        rest();
        unpack();
        faults();
        partFaults();
        samples();
        forget();
        train();
        candidates();
        trainTies();
        gained();
        price();
        offer();
        sends();
        over();
        deliver();
        lateOffers();
        deliverWithoutRoom();
        lose();
        twice();
        message();
        latest();
        count();
        System.out.println(wrong == 0 ? "all promises hold" : wrong + " answers are not as due");
        if (wrong != 0) System.exit(1);
    }
}
