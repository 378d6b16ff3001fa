/** Promises 16 and 17: written letters are read, and each FAULT at its place. */
final class FaultEdges extends Edges {
    private static final String FIRST = "FAULTS of a written one, the first that there is as it is read, "
            + "its place being the number of its first bit";
    private static final String ENDS = "1 the bits end too soon (the place: how many bits there are).";
    private static final String NO_BOOK = "2 there is no such BOOK (place 0).";
    private static final String GREAT = "3 G's bits of a number above 255 (as the eighth 0 in a row is read; its first bit).";
    private static final String SIZE = "4 a size above 120 (5).";
    private static final String PART = "5 a PART (its first of 2 bits) that can not be:";
    private static final String NOT_RANKED = "WHOLE with a BOOK that is not RANKED (as its kind is read)";
    private static final String OWN_PART = "OWN: n is not 1 .. 120, or beyond the letter's size (ahead of its bytes)";
    private static final String COPY_PART = "TOLD, FAR: p, n (as both are read)";
    private static final String WHOLE_PART = "WHOLE: k (as that is read)";
    private static final String BEYOND = "these also if they are beyond the size.";
    private static final String FILL = "6 behind the last PART a bit that is 1, or 8 bits or more "
            + "(the first bit behind that PART).";
    private static final String A = "01100001", ABC = "01100001 01100010 01100011";

    @Override
    void run() {
        promise(16);
        unpack();
        promise(17);
        fault();
        ends();
        noBook();
        great();
        sizes();
        notRanked();
        own();
        told();
        far();
        whole();
        fill();
        firstOfSeveral();
    }

    /** BOOK 0 is RANKED, with a ROW of 10; 1 PLAIN, of 5; 2 CUT, of 5; 3 PLAIN, of 0. */
    private static void books(Post x) {
        x.book(2, "abcd", "efgh", "ij");
        x.book(0, "klmno");
        x.book(1, "klmno");
        x.book(0);
    }

    private void faultIs(Post x, int code, int place, String bits) {
        due("unpack() of " + bits, x.unpack(bits), -100 - place);
        due("fault() of " + bits, x.fault(), code);
        due("count(3)", x.count(3), 0);
    }

    private void letterIs(Post x, String letter, String bits) {
        due("unpack() of " + bits, x.unpack(bits), letter.length());
        due("fault() of " + bits, x.fault(), 0);
        due("OUT", x.out(), letter);
        due("count(3)", x.count(3), 0);
    }

    private void unpack() {
        String letter = "The tape, written, is read: OUT becomes the letter: how many bytes";
        String fault = "-100 less the place of its FAULT (OUT stays).";
        test(letter, "no bytes", x -> {
            x.book(0, "abc");
            x.tell(0, 0);
            letterIs(x, "", "00000 1");
        });
        test(letter, "one byte", x -> letterIs(x, "a", "00000 010 00 1" + A));
        test(letter, "120 bytes, as pack() writes them", x -> {
            x.pack(fresh(100, 120), NONE);
            x.again();
            due("unpack()", x.unpack(), 120);
            outIs(x, fresh(100, 120));
        });
        test(letter, "120 OWN of one byte each: 1338 bits, 168 bytes", x -> {
            StringBuilder bits = new StringBuilder("00000 0000001111001");
            for (int i = 0; i < 120; i++) bits.append("001").append(Integer.toBinaryString(256 + i).substring(1));
            letterIs(x, fresh(120), bits.toString());
        });
        test(letter, "PARTS of all kinds that are not LEAST", x -> {
            books(x);
            letterIs(x, "efg\u007fijefg\u007f\0\u00ff", "00001 0001101" + "01 0100 1" + "00 1 01111111" + "11 011"
                    + "10 000 010" + "00 1 00000000" + "00 1 11111111");
        });
        test(letter, "a shorter letter behind a longer one", x -> {
            letterIs(x, "abc", "00000 00100 00 011" + ABC);
            letterIs(x, "a", "00000 010 00 1" + A);
            due("out(1)", x.out(1), NONE);
        });
        test(fault, "place 0: -100", x -> due("unpack()", x.unpack(), -100));
        test(fault, "place 1336 of 1336 bits: -1436", x -> {
            StringBuilder bits = new StringBuilder("00000 0000001111001");
            for (int i = 0; i < 119; i++) bits.append("001").append(Integer.toBinaryString(256 + i).substring(1));
            bits.append("001 111111");
            faultIs(x, 1, 1336, bits.toString());
        });
        test(fault, "place 1338, with 169 bytes: -1438", x -> {
            StringBuilder bits = new StringBuilder("00000 0000001111001");
            for (int i = 0; i < 120; i++) bits.append("001").append(Integer.toBinaryString(256 + i).substring(1));
            faultIs(x, 6, 1338, bits + "000000 00000000");
        });
        test(fault, "240 bytes of 0", x -> faultIs(x, 3, 5, "0".repeat(1920)));
        test(fault, "240 bytes of 255", x -> faultIs(x, 2, 0, "1".repeat(1920)));
        test(fault, "OUT stays, with each FAULT", x -> {
            books(x);
            x.tell(0, 1);
            String[] faulty = {"", "11111", "00000 00000000", "00000 0000001111010", "00000 00100 11", "00000 1 1"};
            for (int i = 0; i < faulty.length; i++) {
                due("unpack() of " + faulty[i], x.unpack(faulty[i]) <= -100 ? 1 : 0, 1);
                due("fault()", x.fault(), i + 1);
                due("OUT", x.out(), "efgh");
            }
        });
        test(fault, "OUT stays, though PARTS of the letter were read", x -> {
            books(x);
            x.tell(0, 1);
            faultIs(x, 5, 5 + 5 + 11, "00001 00100 00 1" + A + "11 1");
            due("OUT", x.out(), "efgh");
        });
    }

    private void fault() {
        test("The FAULT of what was read latest by unpack(); 0 without.", "nothing was read", x -> due("fault()", x.fault(), 0));
        test("The FAULT of what was read latest by unpack(); 0 without.", "it is told as often as it is asked", x -> {
            x.unpack();
            due("fault()", x.fault(), 1);
            due("fault()", x.fault(), 1);
        });
        test("The FAULT of what was read latest by unpack(); 0 without.", "a right one behind a faulty one", x -> {
            x.unpack();
            letterIs(x, "", "00000 1");
        });
        test("The FAULT of what was read latest by unpack(); 0 without.", "a faulty one behind a faulty one", x -> {
            faultIs(x, 2, 0, "11111");
            faultIs(x, 6, 6, "00000 1 1");
            faultIs(x, 1, 0, "");
        });
        test("The FAULT of what was read latest by unpack(); 0 without.", "no other call reads", x -> {
            x.unpack("11111");
            x.pack("abc", NONE);
            x.again();
            x.trim(0);
            x.send("abc", NONE);
            x.deliver(0);
            due("latest()", x.latest(), 3);
            due("fault()", x.fault(), 2);
        });
    }

    private void ends() {
        test(ENDS, "no bits at all", x -> faultIs(x, 1, 0, ""));
        test(ENDS, "among the 0s of the size", x -> faultIs(x, 1, 8, "00000 000"));
        test(ENDS, "behind the 0s of the size", x -> faultIs(x, 1, 8, "00000 001"));
        test(ENDS, "ahead of the first PART", x -> faultIs(x, 1, 8, "00000 010"));
        test(ENDS, "between the two bits of a kind", x -> {
            faultIs(x, 1, 24, "00000 0001000 00 1" + A + "0");
            faultIs(x, 1, 24, "00000 0001000 00 1" + A + "1");
        });
        test(ENDS, "ahead of an OWN's n", x -> faultIs(x, 1, 16, "00000 000010000 00"));
        test(ENDS, "behind seven 0s of an OWN's n", x -> faultIs(x, 1, 32, "00000 0001000 00 1" + A + "00 0000000"));
        test(ENDS, "ahead of an OWN's bytes", x -> faultIs(x, 1, 32, "00000 0001111 00 1" + A + "00 0001000"));
        test(ENDS, "in an OWN's first byte", x -> faultIs(x, 1, 16, "00000 011 00 010 011"));
        test(ENDS, "in an OWN's second byte", x -> faultIs(x, 1, 24, "00000 011 00 010" + A));
        test(ENDS, "1 bit ahead of the end of an OWN's last byte", x -> {
            faultIs(x, 1, 48, "00000 00101 00 00100" + ABC + "0110010");
            letterIs(x, "abcd", "00000 00101 00 00100" + ABC + "01100100");
        });
        test(ENDS, "ahead of a TOLD's p", x -> {
            books(x);
            faultIs(x, 1, 16, "00001 000010000 01");
        });
        test(ENDS, "in a TOLD's p", x -> {
            books(x);
            faultIs(x, 1, 16, "00001 0001000 01 01");
        });
        test(ENDS, "ahead of a TOLD's n", x -> {
            books(x);
            faultIs(x, 1, 16, "00001 00100 01 0100");
        });
        test(ENDS, "in a TOLD's n", x -> {
            books(x);
            faultIs(x, 1, 24, "00001 00100 01 0100 00000011");
        });
        test(ENDS, "ahead of the n of a TOLD that has no p", x -> faultIs(x, 1, 16, "00000 000010000 01"));
        test(ENDS, "in a FAR's p", x -> faultIs(x, 1, 56, "00000 000010000 00 00100" + ABC + A + "10 0"));
        test(ENDS, "in a FAR's n", x -> faultIs(x, 1, 48, "00000 0001000 00 011" + ABC + "10 00 000"));
        test(ENDS, "ahead of a WHOLE's k", x -> {
            books(x);
            faultIs(x, 1, 16, "00001 000010000 11");
        });
        test(ENDS, "in a WHOLE's k", x -> {
            books(x);
            faultIs(x, 1, 16, "00001 00100 11 0000");
        });
        test(ENDS, "ahead of the last PART", x -> {
            books(x);
            faultIs(x, 1, 16, "00010 00101 01 000 1");
        });
    }

    private void noBook() {
        test(NO_BOOK, "no BOOKS: NONE and 0", x -> {
            letterIs(x, "", "00000 1");
            faultIs(x, 2, 0, "00001 1");
        });
        test(NO_BOOK, "two BOOKS: 1 and 2", x -> {
            x.emptyBooks(2);
            letterIs(x, "", "00010 1");
            faultIs(x, 2, 0, "00011 1");
        });
        test(NO_BOOK, "24 BOOKS: 23 and 24, and the greatest number", x -> {
            x.emptyBooks(24);
            letterIs(x, "", "11000 1");
            faultIs(x, 2, 0, "11001 1");
            faultIs(x, 2, 0, "11111 1");
        });
        test(NO_BOOK, "what is behind it is not looked at", x -> {
            faultIs(x, 2, 0, "00001");
            faultIs(x, 2, 0, "00001 00000000");
            faultIs(x, 2, 0, "00001 0000001111010");
            faultIs(x, 2, 0, "00001 1 11 11111111");
        });
        test(NO_BOOK, "a BOOK that comes later is there then", x -> {
            faultIs(x, 2, 0, "00001 1");
            x.book(0);
            letterIs(x, "", "00001 1");
        });
    }

    private void great() {
        test(GREAT, "a size: seven 0s are none, eight are one", x -> {
            faultIs(x, 4, 5, "00000 0000000 11111111");
            faultIs(x, 4, 5, "00000 0000000 10000000");
            faultIs(x, 3, 5, "00000 00000000 1");
        });
        test(GREAT, "an OWN's n: 255 and 256", x -> {
            faultIs(x, 5, 8, "00000 010 00 0000000 11111111");
            faultIs(x, 3, 10, "00000 010 00 00000000 100000000");
        });
        test(GREAT, "a TOLD's n", x -> {
            books(x);
            faultIs(x, 5, 10, "00001 00100 01 0000 0000000 11111111");
            faultIs(x, 3, 16, "00001 00100 01 0000 00000000 1");
        });
        test(GREAT, "a FAR's n", x -> {
            faultIs(x, 5, 39, "00000 00111 00 011" + ABC + "10 00 0000000 11111111");
            faultIs(x, 3, 43, "00000 00111 00 011" + ABC + "10 00 00000000 1");
        });
        test(GREAT, "a WHOLE's k", x -> {
            books(x);
            faultIs(x, 5, 10, "00001 00100 11 0000000 11111111");
            faultIs(x, 3, 12, "00001 00100 11 00000000 1");
        });
        test(GREAT, "the eighth 0 is the last bit", x -> faultIs(x, 3, 16, "00000 000010000 00 00000000"));
        test(GREAT, "the eighth 0 is in the byte behind", x -> {
            faultIs(x, 1, 32, "00000 0001000 00 1" + A + "00 0000000");
            faultIs(x, 3, 25, "00000 0001000 00 1" + A + "00 0000000 0");
        });
    }

    private void sizes() {
        test(SIZE, "120 bytes", x -> {
            x.book(0, fresh(120));
            letterIs(x, fresh(120), "00001 0000001111001 01 0000000 0000001110110");
        });
        test(SIZE, "121 bytes", x -> {
            x.book(0, fresh(200));
            faultIs(x, 4, 5, "00001 0000001111010 01 00000000 0000001110111");
        });
        test(SIZE, "126, 127 and 254 bytes", x -> {
            faultIs(x, 4, 5, "00000 000000 1111111");
            faultIs(x, 4, 5, "00000 0000000 10000000");
            faultIs(x, 4, 5, "00000 0000000 11111111");
        });
        test(SIZE, "no bit behind the size", x -> faultIs(x, 4, 5, "00000 0000001111010"));
    }

    private void notRanked() {
        test(NOT_RANKED, "with NONE", x -> faultIs(x, 5, 14, "00000 000010000 11"));
        test(NOT_RANKED, "with a PLAIN one", x -> {
            books(x);
            faultIs(x, 5, 14, "00010 000010000 11");
        });
        test(NOT_RANKED, "with a CUT one", x -> {
            books(x);
            faultIs(x, 5, 14, "00011 000010000 11");
        });
        test(NOT_RANKED, "with a BOOK of 0 bytes", x -> {
            books(x);
            faultIs(x, 5, 14, "00100 000010000 11");
        });
        test(NOT_RANKED, "its k is not read: neither an end nor eight 0s", x -> {
            books(x);
            faultIs(x, 5, 10, "00011 00100 11 00000000");
            faultIs(x, 5, 10, "00011 00110 11 1");
        });
        test(NOT_RANKED, "as the second PART", x -> {
            books(x);
            faultIs(x, 5, 16, "00010 00110 01 000 1 11");
        });
    }

    private void own() {
        test(OWN_PART, "n is all that is left, and 1 more", x -> {
            letterIs(x, "a", "00000 010 00 1" + A);
            faultIs(x, 5, 8, "00000 010 00 010" + A + A);
        });
        test(OWN_PART, "n is 1 more, and no byte follows", x -> faultIs(x, 5, 8, "00000 010 00 010"));
        test(OWN_PART, "120 of 120, and 121", x -> {
            x.pack(fresh(120), NONE);
            x.again();
            due("unpack()", x.unpack(), 120);
            faultIs(x, 5, 18, "00000 0000001111001 00 0000001111001");
        });
        test(OWN_PART, "n is 127, 128 and 255 of 120", x -> {
            faultIs(x, 5, 18, "00000 0000001111001 00 000000 1111111");
            faultIs(x, 5, 18, "00000 0000001111001 00 0000000 10000000");
            faultIs(x, 5, 18, "00000 0000001111001 00 0000000 11111111");
        });
        test(BEYOND, "the second OWN: 1 of 1 that is left, and 2", x -> {
            String two = "00000 00100 00 010" + A + A;
            letterIs(x, "aaa", two + "00 1" + A);
            faultIs(x, 5, 31, two + "00 010" + A + A);
        });
    }

    private void told() {
        String[] three = {"abc", "bcd", "", "", "efg", "fgh", "", "", "", "", "", "", "", "", "", ""};
        for (int place = 0; place < 16; place++) {
            int p = place;
            test(COPY_PART, "TOLD 3 of place " + p + ", PIECES of 4, 4 and 2", x -> {
                books(x);
                String bits = "00001 00100 01" + Integer.toBinaryString(16 + p).substring(1) + "1";
                if (three[p].isEmpty()) faultIs(x, 5, 10, bits);
                else letterIs(x, three[p], bits);
            });
        }
        test(COPY_PART, "TOLD 4 of places 0 and 1: to the END, and over it", x -> {
            books(x);
            letterIs(x, "abcd", "00001 00101 01 0000 010");
            faultIs(x, 5, 10, "00001 00101 01 0001 010");
        });
        test(COPY_PART, "TOLD 3 of places 2 to 7 of a ROW of 5", x -> {
            books(x);
            letterIs(x, "mno", "00010 00100 01 010 1");
            for (String p : new String[] {"011", "100", "101", "110", "111"}) faultIs(x, 5, 10, "00010 00100 01" + p + "1");
        });
        test(COPY_PART, "TOLD of NONE, which has no places", x -> faultIs(x, 5, 10, "00000 00100 01 1"));
        test(COPY_PART, "TOLD of a BOOK of 0 bytes", x -> {
            books(x);
            faultIs(x, 5, 10, "00100 00100 01 1");
        });
        test(COPY_PART, "TOLD 257, the most that can be written", x -> {
            x.book(0, fresh(200));
            faultIs(x, 5, 18, "00001 0000001111001 01 00000000 0000000 11111111");
        });
        test(BEYOND, "TOLD 3 of 3 that are left, and 4", x -> {
            books(x);
            letterIs(x, "klm", "00010 00100 01 000 1");
            faultIs(x, 5, 10, "00010 00100 01 000 010");
        });
        test(BEYOND, "TOLD 3 of 2 that are left", x -> {
            books(x);
            faultIs(x, 5, 16, "00010 00110 01 000 1 01 000 1");
        });
        test(BEYOND, "TOLD 121 of 120", x -> {
            x.book(0, fresh(200));
            faultIs(x, 5, 18, "00001 0000001111001 01 00000000 0000001110111");
        });
    }

    private void far() {
        test(COPY_PART, "FAR at byte 0: nothing is ahead", x -> faultIs(x, 5, 10, "00000 00100 10 1"));
        test(COPY_PART, "FAR at byte 1", x -> {
            faultIs(x, 5, 21, "00000 00101 00 1" + A + "10 0 1");
            faultIs(x, 5, 21, "00000 00101 00 1" + A + "10 1 1");
        });
        test(COPY_PART, "FAR at byte 2", x -> faultIs(x, 5, 31, "00000 00110 00 010" + A + A + "10 00 1"));
        test(COPY_PART, "FAR 3 at byte 3, of places 0 to 3", x -> {
            String head = "00000 00111 00 011" + ABC + "10";
            letterIs(x, "abcabc", head + "00 1");
            faultIs(x, 5, 39, head + "01 1");
            faultIs(x, 5, 39, head + "10 1");
            faultIs(x, 5, 39, head + "11 1");
        });
        test(COPY_PART, "FAR 3 at byte 4, of places 1 to 7", x -> {
            String head = "00000 0001000 00 00100" + ABC + "01100100" + "10";
            letterIs(x, "abcdbcd", head + "001 1");
            for (String p : new String[] {"010", "011", "100", "111"}) faultIs(x, 5, 51, head + p + "1");
        });
        test(COPY_PART, "FAR 4 at byte 3 and at byte 4, of place 0", x -> {
            faultIs(x, 5, 41, "00000 0001000 00 011" + ABC + "10 00 010");
            letterIs(x, "abcdabcd", "00000 0001001 00 00100" + ABC + "01100100" + "10 000 010");
        });
        test(BEYOND, "FAR 3 of 3 that are left, and of 2", x -> {
            letterIs(x, "abcabc", "00000 00111 00 011" + ABC + "10 00 1");
            faultIs(x, 5, 39, "00000 00110 00 011" + ABC + "10 00 1");
        });
    }

    private void whole() {
        test(WHOLE_PART, "the last PIECE of 3, and the one behind it", x -> {
            books(x);
            letterIs(x, "ij", "00001 011 11 011");
            faultIs(x, 5, 8, "00001 011 11 00100");
        });
        test(WHOLE_PART, "PIECE 19 of 20, and 20", x -> {
            for (int i = 0; i < 20; i++) x.piece(fresh(2 * i, 2));
            x.book(2);
            letterIs(x, fresh(38, 2), "00001 011 11 000010100");
            faultIs(x, 5, 8, "00001 011 11 000010101");
        });
        test(WHOLE_PART, "PIECE 254", x -> {
            books(x);
            faultIs(x, 5, 8, "00001 011 11 0000000 11111111");
        });
        test(BEYOND, "a WHOLE of 4 bytes: 4 are left, 3 are left", x -> {
            books(x);
            letterIs(x, "abcd", "00001 00101 11 1");
            faultIs(x, 5, 10, "00001 00100 11 1");
        });
        test(BEYOND, "the second WHOLE: 2 bytes are left, 1 is left", x -> {
            books(x);
            letterIs(x, "ijij", "00001 00101 11 011 11 011");
            faultIs(x, 5, 15, "00001 00100 11 011 11 011");
        });
        test(PART, "its place is that of its kind, behind other PARTS", x -> {
            books(x);
            faultIs(x, 5, 12 + 3 + 11 + 7, "00001 0001100 11 1 00 1" + A + "01 0000 1 01 1111 1");
        });
    }

    private void fill() {
        test(FILL, "no bit is left", x -> {
            books(x);
            letterIs(x, "klm", "00010 00100 01 000 1");
        });
        test(FILL, "8 bits of 0 are left", x -> {
            books(x);
            faultIs(x, 6, 16, "00010 00100 01 000 1 00000000");
        });
        test(FILL, "8 bits with a 1 are left", x -> {
            books(x);
            faultIs(x, 6, 16, "00010 00100 01 000 1 00000001");
            faultIs(x, 6, 16, "00010 00100 01 000 1 10000000");
        });
        test(FILL, "1 bit is left", x -> {
            x.book(0, "klm");
            letterIs(x, "klm", "00001 00100 01 00 1 0");
            faultIs(x, 6, 15, "00001 00100 01 00 1 1");
        });
        test(FILL, "9 bits are left", x -> {
            x.book(0, "klm");
            faultIs(x, 6, 15, "00001 00100 01 00 1 0 00000000");
        });
        test(FILL, "7 bits are left: each of them must be 0", x -> {
            String abcd = "00000 00101 00 00100" + ABC + "01100100";
            letterIs(x, "abcd", abcd + "0000000");
            for (int i = 0; i < 7; i++) faultIs(x, 6, 49, abcd + "0".repeat(i) + "1" + "0".repeat(6 - i));
        });
        test(FILL, "15 bits are left", x -> faultIs(x, 6, 49, "00000 00101 00 00100" + ABC + "01100100 0000000 00000000"));
        test(FILL, "no PARTS: the first bit behind the size", x -> {
            letterIs(x, "", "00000 1 00");
            faultIs(x, 6, 6, "00000 1 10");
            faultIs(x, 6, 6, "00000 1 01");
            faultIs(x, 6, 6, "00000 1 00 00000000");
        });
        test(FILL, "what would be one more PART", x -> {
            faultIs(x, 6, 19, "00000 010 00 1" + A + "00 1" + A);
            faultIs(x, 6, 19, "00000 010 00 1" + A + "11");
        });
        test(FILL, "231 bytes behind", x -> {
            x.load("\u0004" + "\0".repeat(231));
            due("unpack()", x.unpack(), -106);
            due("fault()", x.fault(), 6);
        });
    }

    private void firstOfSeveral() {
        test(FIRST, "no such BOOK, ahead of an end", x -> faultIs(x, 2, 0, "00001 000"));
        test(FIRST, "a number above 255 ahead of an end", x -> faultIs(x, 3, 5, "00000 00000000"));
        test(FIRST, "a number above 255, ahead of a p that can not be", x -> {
            books(x);
            faultIs(x, 3, 16, "00001 00100 01 1111 00000000");
        });
        test(FIRST, "a number above 255, ahead of a FAR that can not be", x -> faultIs(x, 3, 12, "00000 00100 10 00000000"));
        test(FIRST, "an end, ahead of a p that can not be", x -> {
            books(x);
            faultIs(x, 1, 16, "00001 00100 01 1111");
        });
        test(FIRST, "a size above 120, ahead of a PART that can not be", x -> faultIs(x, 4, 5, "00000 0000001111010 11"));
        test(FIRST, "a PART that can not be, ahead of an end", x -> faultIs(x, 5, 8, "00000 010 00 0000001111000"));
        test(FIRST, "a PART that can not be, ahead of bits behind it", x -> faultIs(x, 5, 10, "00000 00100 11 1 11111111 11111111"));
    }
}
