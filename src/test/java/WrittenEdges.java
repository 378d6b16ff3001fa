/** Promise 11: a letter WRITTEN, bit by bit. */
final class WrittenEdges extends Edges {
    private static final String WRITTEN = "WRITTEN is a PACKED letter as bits, in bytes, the highest bit of a byte first, "
            + "the last one filled with 0";
    private static final String BOOK = "the BOOK's number and 1 (NONE: 0) in 5 bits";
    private static final String SIZE = "G's bits of 1 more than the letter's size";
    private static final String GAMMA = "in bits: one 0 less often than n has bits, then the bits of n, the highest first.";
    private static final String OWN_BITS = "the PARTS: 2 bits for the kind; OWN: G's bits of n, then n bytes";
    private static final String TOLD_BITS = "TOLD: p in W(size of the ROW) bits, G's bits of n - 2";
    private static final String FAR_BITS = "FAR: p in W(i) bits, G's bits of n - 2";
    private static final String WHOLE_BITS = "WHOLE: G's bits of k + 1.";

    @Override
    void run() {
        promise(11);
        bytes();
        heads();
        own();
        copies();
        whole();
    }

    private void bytes() {
        test(WRITTEN, "6 bits: one byte, filled by 2", x -> {
            x.pack(NONE);
            bitsAre(x, "00000 1");
            outIs(x, "\u0004");
        });
        test(WRITTEN, "16 bits: two bytes, not filled", x -> {
            x.book(0, "abcd");
            x.pack("bcd", 0);
            bitsAre(x, "00001 00100 01 001 1");
            due("count(4)", x.count(4), 2);
        });
        test(WRITTEN, "17 bits: three bytes, filled by 7", x -> {
            x.book(0, "abcdefgh");
            x.pack("fgh", 0);
            bitsAre(x, "00001 00100 01 0101 1");
            due("count(4)", x.count(4), 3);
            due("out(2)", x.out(2), 0x80);
        });
        test(WRITTEN, "nothing of an earlier one fills it", x -> {
            x.pack("\u00ff\u00ff\u00ff\u00ff", NONE);
            x.pack("\0", NONE);
            bitsAre(x, "00000 010 00 1 00000000");
        });
        test(WRITTEN, "bits across bytes", x -> {
            x.pack("\u00ff\0\u00ff", NONE);
            bitsAre(x, "00000 00100 00 011 11111111 00000000 11111111");
        });
    }

    private void heads() {
        test(BOOK, "NONE", x -> {
            x.pack(NONE);
            bitsAre(x, "00000 1");
        });
        test(BOOK, "BOOK 0", x -> {
            x.book(0);
            x.pack(0);
            bitsAre(x, "00001 1");
        });
        test(BOOK, "BOOK 23, the last that there can be", x -> {
            x.emptyBooks(24);
            x.pack(23);
            bitsAre(x, "11000 1");
            x.pack(15);
            bitsAre(x, "10000 1");
        });
        test(SIZE, "no bytes", x -> {
            x.pack(NONE);
            bitsAre(x, "00000 1");
        });
        test(SIZE, "1, 2 and 3 bytes", x -> {
            x.pack("a", NONE);
            bitsAre(x, "00000 010 00 1 01100001");
            x.pack("ab", NONE);
            bitsAre(x, "00000 011 00 010 01100001 01100010");
            x.pack("abc", NONE);
            bitsAre(x, "00000 00100 00 011 01100001 01100010 01100011");
        });
        test(SIZE, "120 bytes", x -> {
            x.book(0, fresh(120));
            x.pack(fresh(120), 0);
            bitsAre(x, "00001 0000001111001 01 0000000 0000001110110");
        });
        test(GAMMA, "3, 4, 5, 7 and 8 as a size and 1; 1 to 5 as a k and 1", x -> {
            x.book(2, fresh(2), fresh(3), fresh(4), fresh(6), fresh(7));
            String[] gammas = {"011", "00100", "00101", "00111", "0001000"};
            String[] ks = {"1", "010", "011", "00100", "00101"};
            int[] sizes = {2, 3, 4, 6, 7};
            for (int k = 0; k < 5; k++) {
                x.pack(fresh(sizes[k]), 0);
                bitsAre(x, "00001" + gammas[k] + "11" + ks[k]);
            }
        });
    }

    private void own() {
        test(OWN_BITS, "1 byte, of 0 and of 255", x -> {
            x.pack("\0", NONE);
            bitsAre(x, "00000 010 00 1 00000000");
            x.pack("\u00ff", NONE);
            bitsAre(x, "00000 010 00 1 11111111");
        });
        test(OWN_BITS, "120 bytes", x -> {
            x.pack(fresh(120), NONE);
            StringBuilder bits = new StringBuilder("00000 0000001111001 00 0000001111000");
            for (int i = 0; i < 120; i++) bits.append(Integer.toBinaryString(256 + i).substring(1));
            bitsAre(x, bits.toString());
        });
        test(OWN_BITS, "two of them in one letter, each with bytes of its own", x -> {
            x.book(2, "ab");
            x.pack("xabyz", 0);
            bitsAre(x, "00001 00110 00 1 01111000 11 1 00 010 01111001 01111010");
        });
    }

    private void copies() {
        test(TOLD_BITS, "the first place and the last of a ROW of 3", x -> {
            x.book(0, "abc");
            x.pack("abc", 0);
            bitsAre(x, "00001 00100 01 00 1");
        });
        test(TOLD_BITS, "the last place of a ROW of 200: 197 in 8 bits", x -> {
            x.book(0, fresh(200));
            x.pack(fresh(197, 3), 0);
            bitsAre(x, "00001 00100 01 11000101 1");
        });
        test(TOLD_BITS, "the last place of a ROW of 320: 317 in 9 bits", x -> {
            for (int i = 0; i < 19; i++) x.piece(("" + (char) ('A' + i)).repeat(16));
            x.book(1, "z".repeat(13) + "uvw");
            due("pack", x.pack("uvw", 0), 12);
            bitsAre(x, "00001 00100 01 100111101 1");
        });
        test(TOLD_BITS, "n of 4 and of 5", x -> {
            x.book(0, "abcdef");
            x.pack("cdef", 0);
            bitsAre(x, "00001 00101 01 010 010");
            x.pack("bcdef", 0);
            bitsAre(x, "00001 00110 01 001 011");
        });
        String abc = "01100001 01100010 01100011";
        test(FAR_BITS, "at byte 3: p in 2 bits", x -> {
            x.pack("abcabc", NONE);
            bitsAre(x, "00000 00111 00 011" + abc + "10 00 1");
        });
        test(FAR_BITS, "at byte 4: p in 3 bits", x -> {
            x.pack("xabcabc", NONE);
            bitsAre(x, "00000 0001000 00 00100 01111000" + abc + "10 001 1");
        });
        test(FAR_BITS, "at byte 117: the last place, 114, in 7 bits", x -> {
            x.book(0, fresh(117));
            x.pack(fresh(117) + fresh(114, 3), 0);
            partsAre(x, told(0, 117), told(114, 3));
            x.book(0, fresh(117) + fresh(150, 50));
            x.pack(fresh(117) + fresh(114, 3), 1);
            partsAre(x, told(0, 117), far(114, 3));
            bitsAre(x, "00010 0000001111001 01 00000000 0000001110011 10 1110010 1");
        });
    }

    private void whole() {
        test(WHOLE_BITS, "PIECE 0, 1 and 19", x -> {
            for (int i = 0; i < 20; i++) x.piece(fresh(2 * i, 2));
            x.book(2);
            x.pack(fresh(0, 2), 0);
            bitsAre(x, "00001 011 11 1");
            x.pack(fresh(2, 2), 0);
            bitsAre(x, "00001 011 11 010");
            x.pack(fresh(38, 2), 0);
            bitsAre(x, "00001 011 11 000010100");
        });
    }
}
