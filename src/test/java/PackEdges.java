/** Promises 11 and 13 to 15: which letters can be packed, what PARTS there can be and what they cost. */
final class PackEdges extends Edges {
    private static final String PLACES = "its places are numbered from 0; a PIECE's END is the place behind it.";
    private static final String OWN_PART = "0 OWN: n bytes as they are, 1 .. 120: 2 + G(n) + 8 * n bits.";
    private static final String TOLD_PART = "1 TOLD: n bytes, 3 or more, of the BOOK's ROW from place p on, "
            + "not over the END of the PIECE in which p is: 2 + W(size of the ROW) + G(n - 2) bits.";
    private static final String FAR_PART = "2 FAR: n bytes, 3 or more, of the letter itself from place p on, "
            + "all of them ahead of i: 2 + W(i) + G(n - 2) bits.";
    private static final String WHOLE_PART = "3 WHOLE, with a RANKED one alone: PIECE k: 2 + G(k + 1) bits.";

    @Override
    void run() {
        letters();
        books();
        own();
        told();
        toldEnds();
        far();
        whole();
        manyParts();
        bits();
        part();
        rest();
    }

    private void letters() {
        promise(11);
        String letter = "A LETTER, 0 to 120 bytes, is PACKED with a BOOK (or with none, NONE, which has no bytes) "
                + "as a row of PARTS that give it, one behind the other; at byte i of the letter:";
        test(letter, "no bytes, with NONE", x -> {
            due("pack(NONE)", x.pack(NONE), 0);
            partsAre(x);
        });
        test(letter, "no bytes, with a BOOK of each KIND", x -> {
            for (int kind = 0; kind <= 2; kind++) {
                x.book(kind, "abc");
                due("pack", x.pack(kind), 0);
                partsAre(x);
            }
        });
        test(letter, "with NONE no byte is TOLD", x -> {
            x.book(0, "abc");
            due("pack", x.pack("abc", NONE), 29);
            partsAre(x, own(3));
        });
        test("BAD: book, a letter of more than 120 bytes.", "120 bytes", x -> {
            due("pack", x.pack(fresh(120), NONE), 975);
            partsAre(x, own(120));
            due("count(4)", x.count(4), 125);
        });
        test("BAD: book, a letter of more than 120 bytes.", "120 bytes, the last two being the same", x -> {
            due("pack", x.pack(fresh(119) + fresh(118, 1), NONE), 975);
            partsAre(x, own(120));
        });
        test("BAD: book, a letter of more than 120 bytes.", "120 bytes that are all the same", x -> {
            x.book(0, "a".repeat(200));
            due("pack", x.pack("a".repeat(120), 0), 2 + 8 + 13);
            partsAre(x, told(0, 120));
            due("rest(119)", x.rest(119), 11);
            x.again();
            due("unpack()", x.unpack(), 120);
            due("OUT", x.out(), "a".repeat(120));
        });
        test("BAD: book, a letter of more than 120 bytes.", "121 bytes", x -> {
            due("pack", x.pack(fresh(121), NONE), BAD);
            due("count(3)", x.count(3), 0);
            due("bits()", x.bits(), NONE);
        });
        test("BAD: book, a letter of more than 120 bytes.", "240 bytes", x -> {
            x.book(0, "abc");
            due("pack", x.pack(fresh(240), 0), BAD);
            due("count(3)", x.count(3), 0);
        });
        test("of no PARTS 0.", "nothing packed behind something", x -> {
            x.pack("abc", NONE);
            due("pack", x.pack(NONE), 0);
            partsAre(x);
            due("count(4)", x.count(4), 1);
        });
        test("THE PRICE is that of all PARTS together", "five PARTS", x -> {
            x.book(2, "abcdef", "xyz");
            due("pack", x.pack("QxyzbcdeQxyzbcdeR", 0), 11 + 5 + (2 + 4 + 3) + (2 + 4 + 5) + 11);
            partsAre(x, own(1), whole(1, 3), told(1, 4), far(0, 8), own(1));
        });
        String these = "The tape as a letter, LEAST with a BOOK (or NONE): THE PRICE. THE PARTS are these then, "
                + "OUT is it WRITTEN.";
        test(these, "they are those of the latest letter", x -> {
            x.book(0, "abc");
            x.pack("abc", 0);
            partsAre(x, told(0, 3));
            x.pack("zz", 0);
            partsAre(x, own(2));
            bitsAre(x, "00001 011 00 010 01111010 01111010");
            due("rest(2)", x.rest(2), 0);
            due("rest(3)", x.rest(3), BAD);
        });
        test(these, "nothing of a longer letter stays in a shorter one", x -> {
            x.book(0, "xabcdef");
            x.pack("abcdef", 0);
            due("pack zx", x.pack("zx", 0), 21);
            due("pack xaaaa", x.pack("xaaaa", NONE), 2 + 5 + 40);
            due("pack bXYb", x.pack("bXYb", NONE), 39);
            partsAre(x, own(4));
        });
    }

    private void books() {
        promise(11);
        String bad = "BAD: book, a letter of more than 120 bytes.";
        test(bad, "-2, and the BOOK behind the last", x -> {
            x.book(0, "abc");
            due("pack", x.pack("abc", -2), BAD);
            due("pack", x.pack("abc", 1), BAD);
            due("count(3)", x.count(3), 0);
            due("bits()", x.bits(), NONE);
            due("count(4)", x.count(4), 0);
        });
        test(bad, "23 and 24 of 24 BOOKS", x -> {
            x.emptyBooks(23);
            x.book(0, "abc");
            due("pack", x.pack("abc", 23), 5);
            due("pack", x.pack("abc", 24), BAD);
        });
        test(bad, "neither book nor letter", x -> due("pack", x.pack(fresh(121), 0), BAD));
        test(bad, "BOOKS that are IDLE, or OVER, will do", x -> {
            x.book(0, "abc");
            due("IDLE", x.pack("abc", 0), 5);
            x.makeReady(0);
            due("READY", x.pack("abc", 0), 5);
            x.over(0);
            due("OVER", x.pack("abc", 0), 5);
        });
    }

    private void own() {
        promise(11);
        int[] sizes = {1, 2, 3, 4, 7, 8, 15, 16, 31, 32, 63, 64, 119, 120};
        int[] prices = {11, 21, 29, 39, 63, 73, 129, 139, 259, 269, 517, 527, 967, 975};
        for (int i = 0; i < sizes.length; i++) {
            int n = sizes[i], price = prices[i];
            test(OWN_PART, n + " bytes", x -> {
                due("pack", x.pack(fresh(n), NONE), price);
                partsAre(x, own(n));
            });
        }
        test("G(n), for n above 0, is the number of bits of n less 1, twice, and 1 (1 for 1, 3 for 2 and 3, "
                + "5 for 4 to 7, ..)", "1, 2, 3, 4 and 7", x -> {
            int[] g = {1, 3, 3, 5, 5};
            int[] of = {1, 2, 3, 4, 7};
            for (int i = 0; i < g.length; i++) due("pack", x.pack(fresh(of[i]), NONE), 2 + g[i] + 8 * of[i]);
        });
    }

    private void told() {
        promise(11);
        test(TOLD_PART, "2 bytes are too few", x -> {
            x.book(0, "ab");
            due("pack", x.pack("ab", 0), 21);
            partsAre(x, own(2));
        });
        test(TOLD_PART, "3 bytes, all that there are", x -> {
            x.book(0, "abc");
            due("pack", x.pack("abc", 0), 5);
            partsAre(x, told(0, 3));
        });
        int[] rows = {3, 4, 7, 8, 15, 16, 31, 32, 63, 64, 127, 128, 200};
        int[] widths = {2, 3, 3, 4, 4, 5, 5, 6, 6, 7, 7, 8, 8};
        for (int i = 0; i < rows.length; i++) {
            int size = rows[i], width = widths[i];
            test("W(n) is how many bits n has (0 for 0).", "a ROW of " + size + ", its last 3 bytes", x -> {
                x.book(0, fresh(size));
                due("pack", x.pack(fresh(size - 3, 3), 0), 2 + width + 1);
                partsAre(x, told(size - 3, 3));
            });
        }
        for (int last = 15; last <= 16; last++) {
            int size = last;
            test(TOLD_PART, "a ROW of " + (240 + size) + " in 16 PIECES, its last 3 bytes", x -> {
                for (int i = 0; i < 15; i++) x.piece(("" + (char) ('A' + i)).repeat(16));
                x.book(1, "z".repeat(size - 3) + "uvw");
                due("pack", x.pack("uvw", 0), size == 15 ? 11 : 12);
                partsAre(x, told(237 + size, 3));
            });
        }
        int[] sizes = {3, 4, 5, 6, 9, 10, 17, 18, 33, 34, 65, 66, 119, 120};
        int[] gammas = {1, 3, 3, 5, 5, 7, 7, 9, 9, 11, 11, 13, 13, 13};
        for (int i = 0; i < sizes.length; i++) {
            int n = sizes[i], gamma = gammas[i];
            test(TOLD_PART, n + " bytes of a ROW of 200", x -> {
                x.book(0, fresh(200));
                due("pack", x.pack(fresh(n), 0), 2 + 8 + gamma);
                partsAre(x, told(0, n));
            });
        }
    }

    private void toldEnds() {
        promise(11);
        test(TOLD_PART, "to the END of the first PIECE", x -> {
            x.book(1, "abcd", "efgh");
            due("pack", x.pack("bcd", 0), 7);
            partsAre(x, told(1, 3));
        });
        test(TOLD_PART, "from a PIECE's first place on", x -> {
            x.book(1, "abcd", "efgh");
            due("pack", x.pack("efgh", 0), 9);
            partsAre(x, told(4, 4));
        });
        test(TOLD_PART, "not one byte over the END", x -> {
            x.book(1, "abcd", "efgh");
            due("pack", x.pack("bcde", 0), 7 + 11);
            partsAre(x, told(1, 3), own(1));
        });
        test(TOLD_PART, "not over an END with 2 bytes on each side", x -> {
            x.book(1, "abcd", "efgh");
            due("pack", x.pack("cdef", 0), 39);
            partsAre(x, own(4));
        });
        test(TOLD_PART, "not over the END of the last PIECE", x -> {
            x.book(1, "abcd", "efgh");
            due("pack", x.pack("fghi", 0), 7 + 11);
            partsAre(x, told(5, 3), own(1));
        });
        test(TOLD_PART, "not over the END, though the letter goes on as the ROW does", x -> {
            x.book(1, "aaa", "aaa");
            due("pack", x.pack("aaaaaa", 0), 6 + 5);
            partsAre(x, told(0, 3), far(0, 3));
        });
        test(TOLD_PART, "PIECES of 2 bytes are never TOLD", x -> {
            x.book(1, "ab", "cd");
            due("pack", x.pack("abcd", 0), 39);
            partsAre(x, own(4));
        });
        test(PLACES, "place 0 and the last place", x -> {
            x.book(1, "abc", "xyz");
            x.pack("xyzabc", 0);
            partsAre(x, told(3, 3), told(0, 3));
        });
        test(TOLD_PART, "a ROW of 0 bytes tells nothing", x -> {
            x.book(0);
            due("pack", x.pack("abc", 0), 29);
            partsAre(x, own(3));
        });
        test(TOLD_PART, "all but the last byte of the letter", x -> {
            x.book(0, "abcdef");
            due("pack", x.pack("abcdx", 0), 8 + 11);
            partsAre(x, told(0, 4), own(1));
        });
    }

    private void far() {
        promise(11);
        int[] places = {3, 4, 7, 8, 15, 16, 31, 32, 63, 64, 117};
        int[] widths = {2, 3, 3, 4, 4, 5, 5, 6, 6, 7, 7};
        int[] owns = {29, 39, 63, 73, 129, 139, 259, 269, 517, 527, 951};
        for (int j = 0; j < places.length; j++) {
            int i = places[j], price = owns[j] + 2 + widths[j] + 1;
            test(FAR_PART, "the first 3 bytes again, at byte " + i, x -> {
                due("pack", x.pack(fresh(i) + fresh(3), NONE), price);
                partsAre(x, own(i), far(0, 3));
            });
        }
        test(FAR_PART, "2 bytes are too few", x -> {
            due("pack", x.pack("abcab", NONE), 2 + 5 + 40);
            partsAre(x, own(5));
        });
        test(FAR_PART, "up to byte i - 1", x -> {
            due("pack", x.pack("xabcabc", NONE), 39 + 6);
            partsAre(x, own(4), far(1, 3));
        });
        test(FAR_PART, "not byte i itself: 5 bytes that are all the same", x -> {
            due("pack", x.pack("aaaaa", NONE), 2 + 5 + 40);
            partsAre(x, own(5));
        });
        test(FAR_PART, "not byte i itself: 6 bytes that are all the same", x -> {
            due("pack", x.pack("aaaaaa", NONE), 29 + 5);
            partsAre(x, own(3), far(0, 3));
        });
        test(FAR_PART, "not byte i itself: a row of 2 again and again", x -> {
            due("pack", x.pack("ababab", NONE), 2 + 5 + 48);
            partsAre(x, own(6));
        });
        test(FAR_PART, "half of the letter, which is all ahead of i", x -> {
            due("pack", x.pack(fresh(60) + fresh(60), NONE), 493 + 2 + 6 + 11);
            partsAre(x, own(60), far(0, 60));
        });
        test(FAR_PART, "of bytes that are FAR themselves", x -> {
            due("pack", x.pack("abcabcabcabc", NONE), 29 + 5 + (2 + 3 + 5));
            partsAre(x, own(3), far(0, 3), far(0, 6));
        });
        test(FAR_PART, "of bytes that are TOLD, with a ROW that is dear", x -> {
            x.book(0, fresh(64));
            due("pack", x.pack(fresh(10, 3) + fresh(10, 3), 0), 10 + 5);
            partsAre(x, told(10, 3), far(0, 3));
        });
    }

    private void whole() {
        promise(11);
        int[] ks = {0, 1, 2, 3, 6, 7, 14, 15, 19};
        int[] prices = {3, 5, 5, 7, 7, 9, 9, 11, 11};
        for (int i = 0; i < ks.length; i++) {
            int k = ks[i], price = prices[i];
            test(WHOLE_PART, "PIECE " + k + " of 20, of 2 bytes", x -> {
                for (int j = 0; j < 20; j++) x.piece(fresh(2 * j, 2));
                x.book(2);
                due("pack", x.pack(fresh(2 * k, 2), 0), price);
                partsAre(x, whole(k, 2));
            });
        }
        test(WHOLE_PART, "a PIECE of 16 bytes", x -> {
            x.book(2, fresh(16));
            due("pack", x.pack(fresh(16), 0), 3);
            partsAre(x, whole(0, 16));
        });
        test(WHOLE_PART, "not with a CUT one", x -> {
            x.book(1, "ab", "cde");
            due("pack", x.pack("abcde", 0), 21 + 6);
            partsAre(x, own(2), told(2, 3));
        });
        test(WHOLE_PART, "not with a PLAIN one", x -> {
            x.book(0, "abcde");
            due("pack", x.pack("abcde", 0), 8);
            partsAre(x, told(0, 5));
        });
        test(WHOLE_PART, "all of the PIECE but its last byte is none", x -> {
            x.book(2, "abc");
            due("pack", x.pack("ab", 0), 21);
            partsAre(x, own(2));
        });
        test(WHOLE_PART, "not beyond the letter's end", x -> {
            x.book(2, "abcd");
            due("pack", x.pack("xabc", 0), 11 + 6);
            partsAre(x, own(1), told(0, 3));
        });
        test(WHOLE_PART, "one behind the other", x -> {
            x.book(2, "ab");
            due("pack", x.pack("abab", 0), 6);
            partsAre(x, whole(0, 2), whole(0, 2));
        });
    }

    /** 40 times a byte of its own and a WHOLE: no letter has more PARTS than these 80. */
    private static String eightyParts() {
        StringBuilder letter = new StringBuilder();
        for (int i = 0; i < 40; i++) letter.append((char) (128 + i)).append("ab");
        return letter.toString();
    }

    private void manyParts() {
        promise(14);
        test("NONE: there are not so many.", "80 PARTS: 79 and 80", x -> {
            x.book(2, "ab");
            due("pack", x.pack(eightyParts(), 0), 40 * (11 + 3));
            partIs(x, 78, OWN, NONE, 1);
            partIs(x, 79, WHOLE, 0, 2);
            for (int what = 0; what <= 2; what++) due("part(80, " + what + ")", x.part(80, what), NONE);
        });
        promise(11);
        test("THE PARTS are these then, OUT is it WRITTEN.", "80 PARTS are written, and read again", x -> {
            x.book(2, "ab");
            x.pack(eightyParts(), 0);
            due("bits()", x.bits(), 5 + 13 + 560);
            due("count(4)", x.count(4), 73);
            x.again();
            due("unpack()", x.unpack(), 120);
            outIs(x, eightyParts());
        });
    }

    private void bits() {
        promise(13);
        String latest = "The bits that the latest pack() wrote (without those that fill).";
        test("NONE: there was none.", "nothing packed", x -> due("bits()", x.bits(), NONE));
        test("NONE: there was none.", "refused ones are none", x -> {
            x.pack("a", 0);
            x.pack(fresh(121), NONE);
            due("bits()", x.bits(), NONE);
        });
        test("NONE: there was none.", "greedy(), send(), price() and unpack() are none", x -> {
            x.greedy("abc", NONE);
            x.sample("abc");
            x.price(NONE);
            x.send("abc", NONE);
            x.deliver(0);
            x.latest();
            x.unpack("00000 1");
            due("bits()", x.bits(), NONE);
        });
        test(latest, "a letter of no bytes: 6", x -> {
            x.pack(NONE);
            due("bits()", x.bits(), 6);
        });
        test(latest, "16, which need no filling", x -> {
            x.book(0, "abcd");
            x.pack("abc", 0);
            due("bits()", x.bits(), 16);
            due("count(4)", x.count(4), 2);
        });
        test(latest, "15, which are filled by 1", x -> {
            x.book(0, "abc");
            x.pack("abc", 0);
            due("bits()", x.bits(), 15);
            due("count(4)", x.count(4), 2);
        });
        test(latest, "17, which are filled by 7", x -> {
            x.book(0, "abcdefgh");
            x.pack("abc", 0);
            due("bits()", x.bits(), 17);
            due("count(4)", x.count(4), 3);
        });
        test(latest, "the most there can be: 993", x -> {
            x.pack(fresh(120), NONE);
            due("bits()", x.bits(), 5 + 13 + 975);
        });
        test(latest, "they stay through all other calls that pack", x -> {
            x.pack("a", NONE);
            x.pack("b", 7);
            x.pack(fresh(121), NONE);
            x.greedy("abcd", NONE);
            x.samples("abcdefgh", "abcdefgh");
            x.price(NONE);
            x.train(2, 6);
            x.send("abcde", NONE);
            x.deliver(0);
            x.latest();
            x.unpack("00000 1");
            due("bits()", x.bits(), 19);
        });
    }

    private void part() {
        promise(14);
        String of = "Of PART i of THE PARTS: what 0 its kind, 1 p (k; of OWN NONE), 2 n (of WHOLE that of its PIECE).";
        test(of, "one of each kind", x -> {
            x.book(2, "abcdef", "xyz");
            x.pack("QxyzbcdeQxyzbcde", 0);
            partIs(x, 0, OWN, NONE, 1);
            partIs(x, 1, WHOLE, 1, 3);
            partIs(x, 2, TOLD, 1, 4);
            partIs(x, 3, FAR, 0, 8);
            due("part(4, 0)", x.part(4, 0), NONE);
        });
        test("NONE: there are not so many.", "nothing packed", x -> {
            for (int what = 0; what <= 2; what++) due("part(0, " + what + ")", x.part(0, what), NONE);
        });
        test("NONE: there are not so many.", "a letter of no bytes", x -> {
            x.pack("abc", NONE);
            x.pack(NONE);
            for (int what = 0; what <= 2; what++) due("part(0, " + what + ")", x.part(0, what), NONE);
        });
        test("NONE: there are not so many.", "0 and 1 of one PART", x -> {
            x.pack("abc", NONE);
            due("part(0, 2)", x.part(0, 2), 3);
            due("part(1, 2)", x.part(1, 2), NONE);
            due("part(2, 2)", x.part(2, 2), NONE);
            due("part(119, 0)", x.part(119, 0), NONE);
            due("part(120, 0)", x.part(120, 0), NONE);
            due("part(121, 0)", x.part(121, 0), NONE);
        });
        test("BAD: i is below 0, what.", "i -1", x -> {
            x.pack("abc", NONE);
            for (int what = -1; what <= 3; what++) due("part(-1, " + what + ")", x.part(-1, what), BAD);
        });
        test("BAD: i is below 0, what.", "what -1 and 3", x -> {
            x.pack("abc", NONE);
            due("part(0, -1)", x.part(0, -1), BAD);
            due("part(0, 3)", x.part(0, 3), BAD);
        });
        test("BAD: i is below 0, what.", "nothing packed", x -> {
            due("part(-1, 0)", x.part(-1, 0), BAD);
            due("part(0, -1)", x.part(0, -1), BAD);
            due("part(0, 3)", x.part(0, 3), BAD);
        });
        test("BAD: i is below 0, what.", "a wrong what, of a PART that there is not", x -> {
            x.pack("abc", NONE);
            due("part(1, 3)", x.part(1, 3), BAD);
            due("part(1, -1)", x.part(1, -1), BAD);
        });
    }

    private void rest() {
        promise(15);
        String least = "The least price from byte i of that letter on (to its end: of its PARTS from there on, "
                + "were it packed so).";
        String bad = "BAD: i is not 0 .. 120, or above its size";
        String none = "NONE: nothing was packed (and i is 0 .. 120).";
        test(none, "0, 1 and 120", x -> {
            due("rest(0)", x.rest(0), NONE);
            due("rest(1)", x.rest(1), NONE);
            due("rest(120)", x.rest(120), NONE);
        });
        test(none, "refused, or only greedy(), is nothing packed", x -> {
            x.pack("abc", 0);
            x.greedy("abc", NONE);
            x.send("abc", NONE);
            due("rest(0)", x.rest(0), NONE);
        });
        test(bad, "-1 and 121, nothing packed", x -> {
            due("rest(-1)", x.rest(-1), BAD);
            due("rest(121)", x.rest(121), BAD);
        });
        test(bad, "-1 and 121, a letter of 120", x -> {
            x.pack(fresh(120), NONE);
            due("rest(-1)", x.rest(-1), BAD);
            due("rest(121)", x.rest(121), BAD);
        });
        test(bad, "a letter of no bytes: 0 and 1", x -> {
            x.pack(NONE);
            due("rest(0)", x.rest(0), 0);
            due("rest(1)", x.rest(1), BAD);
            due("rest(120)", x.rest(120), BAD);
        });
        test(bad, "a letter of 119: 119 and 120", x -> {
            x.pack(fresh(119), NONE);
            due("rest(119)", x.rest(119), 0);
            due("rest(120)", x.rest(120), BAD);
        });
        test(bad, "a letter of 120: 119 and 120", x -> {
            x.pack(fresh(120), NONE);
            due("rest(119)", x.rest(119), 11);
            due("rest(120)", x.rest(120), 0);
        });
        test(bad, "a shorter letter behind a longer one", x -> {
            x.pack(fresh(10), NONE);
            x.pack(fresh(3), NONE);
            due("rest(3)", x.rest(3), 0);
            due("rest(4)", x.rest(4), BAD);
            due("rest(10)", x.rest(10), BAD);
        });
        test(least, "from the first byte on it is THE PRICE", x -> {
            x.book(0, "abcdef");
            due("pack", x.pack("abcdabcd", 0), 16);
            due("rest(0)", x.rest(0), 16);
        });
        test(least, "from within a PART on", x -> {
            x.book(0, "abcdef");
            x.pack("abcdabcd", 0);
            int[] want = {8 + 8, 6 + 8, 21 + 8, 11 + 8, 8, 6, 21, 11, 0};
            for (int i = 0; i < want.length; i++) due("rest(" + i + ")", x.rest(i), want[i]);
        });
        test(least, "FAR can be of bytes ahead of i", x -> {
            x.pack("abcxabcy", NONE);
            due("rest(3)", x.rest(3), 11 + 6 + 11);
            due("rest(4)", x.rest(4), 6 + 11);
            due("rest(5)", x.rest(5), 29);
        });
        test(least, "a WHOLE from within a TOLD on", x -> {
            x.book(2, "cd", "abcdef");
            due("pack", x.pack("abcd", 0), 2 + 4 + 3);
            partsAre(x, told(2, 4));
            due("rest(2)", x.rest(2), 3);
        });
        test(least, "it stays through other calls", x -> {
            x.pack("abc", NONE);
            x.pack("b", 7);
            x.greedy("abcd", NONE);
            x.samples("abcdefgh", "abcdefgh");
            x.price(NONE);
            x.train(2, 6);
            x.send("abcde", NONE);
            due("rest(0)", x.rest(0), 29);
            due("rest(1)", x.rest(1), 21);
            due("rest(4)", x.rest(4), BAD);
        });
    }
}
