/** Promises 18 to 22: SAMPLES and TRAINING. */
final class TrainEdges extends Edges {
    private static final String SAMPLES = "SAMPLES, 8 at most, of 1 to 40 bytes.";
    private static final String MAKES = "TRAINING makes a BOOK of a KIND 1, 2, of at most so many PIECES.";
    private static final String CANDIDATES = "CANDIDATES: all rows of 3 to 12 bytes that are in two SAMPLES at least";
    private static final String MOST = "of them the 8 that are in most SAMPLES, of these (as many) the longest, "
            + "of these the first by bytes.";
    private static final String GAIN = "Then, again and again: THE GAIN of a CANDIDATE is the LEAST PRICE of all SAMPLES together with the BOOK "
            + "of the PIECES so far, less that with it, too, as the last PIECE, less 2 + G(its size) + 8 times its size";
    private static final String GREATEST = "the one with the greatest GAIN (of several the longest, then the first by bytes) "
            + "becomes the next PIECE";
    private static final String ABOVE = "as long as that is above 0, and there are not so many PIECES yet.";
    /** Rows of 4 bytes that have no byte in common, the first by bytes being the first. */
    private static final String[] FOURS = {"ABCD", "EFGH", "IJKL", "MNOP", "QRST", "UVWX", "YZ[\\", "]^_`"};

    @Override
    void run() {
        sample();
        forget();
        train();
        candidates();
        theEight();
        gains();
        ties();
        numberOfPieces();
        gained();
        price();
    }

    private void sample() {
        promise(18);
        String one = "The tape is one more SAMPLE: how many.";
        test(one, "1 to 8", x -> {
            for (int i = 1; i <= 8; i++) due("sample " + i, x.sample("a"), i);
            due("count(1)", x.count(1), 8);
        });
        test(SAMPLES, "no bytes", x -> {
            due("sample()", x.sample(), BAD);
            due("count(1)", x.count(1), 0);
        });
        test(SAMPLES, "1 byte", x -> {
            due("sample()", x.sample("a"), 1);
            due("price(NONE)", x.price(NONE), 11);
        });
        test(SAMPLES, "40 bytes", x -> {
            due("sample()", x.sample(fresh(40)), 1);
            due("price(NONE)", x.price(NONE), 2 + 11 + 320);
        });
        test("BAD: its size", "41 bytes", x -> {
            due("sample()", x.sample(fresh(41)), BAD);
            due("count(1)", x.count(1), 0);
            due("count(3)", x.count(3), 0);
        });
        test("BAD: its size", "240 bytes", x -> due("sample()", x.sample(fresh(240)), BAD));
        test("FULL.", "the ninth", x -> {
            for (int i = 1; i <= 8; i++) x.sample("a");
            due("sample()", x.sample("b"), FULL);
            due("count(1)", x.count(1), 8);
            due("count(3)", x.count(3), 0);
            due("price(NONE)", x.price(NONE), 88);
        });
        test("FULL.", "once they are forgotten there is room for 8", x -> {
            for (int i = 1; i <= 8; i++) x.sample("a");
            x.forget();
            for (int i = 1; i <= 8; i++) due("sample " + i, x.sample("a"), i);
            due("sample()", x.sample("b"), FULL);
        });
    }

    private void forget() {
        promise(19);
        String none = "There are no SAMPLES: how many there were.";
        test(none, "none", x -> due("forget()", x.forget(), 0));
        test(none, "one, then none", x -> {
            x.sample("a");
            due("forget()", x.forget(), 1);
            due("forget()", x.forget(), 0);
        });
        test(none, "8", x -> {
            for (int i = 1; i <= 8; i++) x.sample("a");
            due("forget()", x.forget(), 8);
            due("count(1)", x.count(1), 0);
        });
        test(none, "nothing of them is priced, or trained", x -> {
            x.samples("abcdef", "abcdef");
            x.forget();
            due("price(NONE)", x.price(NONE), 0);
            due("train(2, 6)", x.train(2, 6), NONE);
            due("sample()", x.sample("abcdef"), 1);
            due("train(2, 6)", x.train(2, 6), NONE);
        });
        test(none, "a shorter SAMPLE in the place of a longer one", x -> {
            x.samples("abcdef", "abcdef");
            x.forget();
            x.samples("abc", "abcdef");
            due("price(NONE)", x.price(NONE), 29 + 55);
            x.train(2, 6);
            due("CANDIDATES", x.gained(0), 1);
        });
        test(none, "a shorter SAMPLE in a longer one's place ends with its own last byte", x -> {
            x.samples("abcd");
            x.forget();
            x.samples("abc", "abcd", "abcd", "abcd", "abcd", "abcd", "abcd", "abcd");
            due("train(1, 1)", x.train(1, 1), 0);
            due("CANDIDATES", x.gained(0), 3);
            due("the GAIN", x.gained(2), 29 + 7 * 39 - (6 + 7 * 8) - 39);
            x.tell(0, 0);
            due("its PIECE", x.out(), "abcd");
        });
        test(none, "BOOKS and gained() stay", x -> {
            x.samples("abcdef", "abcdef");
            x.train(2, 6);
            x.forget();
            due("count(0)", x.count(0), 1);
            due("tell(0, 0)", x.tell(0, 0), 6);
            due("gained(1)", x.gained(1), 1);
        });
    }

    private void train() {
        promise(20);
        test("TRAINING: the new BOOK's number.", "the first and the second", x -> {
            x.samples("abcdef", "abcdef");
            due("train(1, 1)", x.train(1, 1), 0);
            due("train(2, 6)", x.train(2, 6), 1);
            due("count(0)", x.count(0), 2);
        });
        test(MAKES, "KIND 1 and 2", x -> {
            x.samples("abcdef", "abcdef");
            for (int kind = 1; kind <= 2; kind++) {
                due("train", x.train(kind, 6), kind - 1);
                due("its KIND", x.about(kind - 1, 0), kind);
                x.tell(kind - 1, 0);
                due("its PIECE", x.out(), "abcdef");
            }
        });
        test("BAD: kind, pieces (1 .. 6)", "kinds 0, 3 and -1", x -> {
            x.samples("abcdef", "abcdef");
            due("train(0, 1)", x.train(0, 1), BAD);
            due("train(3, 1)", x.train(3, 1), BAD);
            due("train(-1, 1)", x.train(-1, 1), BAD);
            due("count(0)", x.count(0), 0);
        });
        test("BAD: kind, pieces (1 .. 6)", "pieces 0, 7 and -1", x -> {
            x.samples("abcdef", "abcdef");
            due("train(1, 0)", x.train(1, 0), BAD);
            due("train(1, 7)", x.train(1, 7), BAD);
            due("train(1, -1)", x.train(1, -1), BAD);
            due("count(0)", x.count(0), 0);
        });
        test("FULL: 24 BOOKS", "the last is made, one more is not", x -> {
            x.samples("abcdef", "abcdef");
            x.emptyBooks(23);
            due("train(2, 6)", x.train(2, 6), 23);
            due("train(2, 6)", x.train(2, 6), FULL);
            due("train(1, 6)", x.train(1, 6), FULL);
            due("count(0)", x.count(0), 24);
        });
        test("NONE: without any PIECE.", "no SAMPLES", x -> due("train(2, 6)", x.train(2, 6), NONE));
        test("NONE: without any PIECE.", "one SAMPLE", x -> {
            x.sample("abcabcabcabcabc");
            due("train(2, 6)", x.train(2, 6), NONE);
        });
        test("Without any PIECE there is no BOOK.", "no CANDIDATE gains", x -> {
            x.samples("1234xyz5678", "abcdxyzefgh");
            due("train(1, 6)", x.train(1, 6), NONE);
            due("count(0)", x.count(0), 0);
            due("gained(0)", x.gained(0), NONE);
        });
        test("TRAINING: the new BOOK's number.", "tape, OUT, THE PARTS, THE DRAFT and SAMPLES stay", x -> {
            x.samples("abcdef", "abcdef");
            x.pack("zz", NONE);
            x.piece("xy");
            x.load("tape");
            x.train(2, 6);
            due("count(1)", x.count(1), 2);
            due("count(2)", x.count(2), 1);
            due("price(NONE)", x.price(NONE), 110);
            partsAre(x, own(2));
            bitsAre(x, "00000 011 00 010 01111010 01111010");
            due("the tape", x.tape(), "tape");
        });
    }

    private void candidates() {
        promise(20);
        test(CANDIDATES, "a row of 2 bytes in 8 SAMPLES is none", x -> {
            for (int i = 0; i < 8; i++) x.sample("ab" + i);
            due("train(2, 6)", x.train(2, 6), NONE);
        });
        test(CANDIDATES, "a row of 3 bytes is one", x -> {
            for (int i = 0; i < 8; i++) x.sample("abc" + i);
            due("train(2, 6)", x.train(2, 6), 0);
            due("CANDIDATES", x.gained(0), 1);
            due("GAIN", x.gained(2), 8 * (39 - 14) - 29);
            due("its size", x.tell(0, 0), 3);
        });
        test(CANDIDATES, "a row of 12 bytes is one", x -> {
            x.samples("abcdefghijkl1", "2abcdefghijkl");
            x.train(2, 1);
            due("its size", x.tell(0, 0), 12);
            outIs(x, "abcdefghijkl");
        });
        test(CANDIDATES, "a row of 13 bytes is none, its last 12 are one", x -> {
            x.samples("mlkjihgfedcba", "mlkjihgfedcba");
            x.train(2, 1);
            due("its size", x.tell(0, 0), 12);
            outIs(x, "lkjihgfedcba");
        });
        test(CANDIDATES, "twice in one SAMPLE is not in two", x -> {
            x.samples("abcdef1abcdef", "23456789");
            due("train(2, 6)", x.train(2, 6), NONE);
        });
        test(CANDIDATES, "in two SAMPLES of eight", x -> {
            x.sample("abcdef");
            for (int i = 1; i < 7; i++) x.sample("0" + i);
            x.sample("1abcdef");
            due("train(2, 1)", x.train(2, 1), 0);
            due("its size", x.tell(0, 0), 6);
        });
        test(CANDIDATES, "two SAMPLES that are the same", x -> {
            x.samples("abc", "abc", "abc");
            due("train(2, 6)", x.train(2, 6), 0);
            due("GAIN", x.gained(2), 3 * (29 - 3) - 29);
        });
        test(CANDIDATES, "at the very start and at the very end", x -> {
            x.samples("xyz1", "2xyz", "3xyz4");
            due("train(2, 6)", x.train(2, 6), 0);
            due("CANDIDATES", x.gained(0), 1);
            x.tell(0, 0);
            outIs(x, "xyz");
        });
        test(CANDIDATES, "a row that is counted once, however often it comes", x -> {
            x.samples("abcd1abcd2abcd", "abcd3abcd4abcd");
            due("train(2, 6)", x.train(2, 6), 0);
            due("CANDIDATES: abcd, abc, bcd", x.gained(0), 3);
        });
        test(CANDIDATES, "a longer row behind one that begins like it", x -> {
            x.samples("abc1abcdef", "abc2abcdef");
            due("train(2, 1)", x.train(2, 1), 0);
            due("CANDIDATES", x.gained(0), 8);
            due("GAIN", x.gained(2), 2 * (74 - 20) - 55);
            x.tell(0, 0);
            outIs(x, "abcdef");
        });
        test(CANDIDATES, "6 of a row of 5", x -> {
            x.samples("abcde1", "2abcde", "abcde");
            x.train(2, 6);
            due("CANDIDATES", x.gained(0), 6);
        });
    }

    /** Two SAMPLES of these rows, in this order and the other way round: no other row is in both. */
    private static void sampleFours(Post x, int rows) {
        StringBuilder there = new StringBuilder(), back = new StringBuilder();
        for (int i = 0; i < rows; i++) {
            there.append(FOURS[i]);
            back.insert(0, FOURS[i]);
        }
        x.samples(there.toString(), back.toString());
    }

    /** xya, xyb and so on, each in two SAMPLES; xyi in two others, and there often. */
    private static void sampleThrees(Post x, int rows) {
        StringBuilder there = new StringBuilder(), back = new StringBuilder();
        for (int i = 0; i < rows; i++) {
            if (i > 0) there.append(i);
            there.append("xy").append((char) ('a' + i));
            back.insert(0, "xy" + (char) ('a' + i) + (i > 0 ? "" + (char) ('k' + i) : ""));
        }
        x.samples(there.toString(), back.toString(), "xyiAxyiBxyiCxyi", "DxyiExyiFxyi");
    }

    private void theEight() {
        promise(20);
        test(MOST, "8, all that there are", x -> {
            x.samples("abcde1xyz2uvw", "3uvw4xyz5abcde", "abcde");
            x.train(2, 6);
            due("abcde is in three", x.gained(0), 8);
        });
        test(MOST, "no more than 8", x -> {
            x.samples("abcdef", "abcdef");
            x.train(2, 6);
            due("CANDIDATES", x.gained(0), 8);
        });
        test(MOST, "the ninth by bytes is none, though it would gain most", x -> {
            sampleFours(x, 8);
            x.samples("wxyz1wxyz2wxyz", "3wxyz4wxyz");
            due("train(2, 1)", x.train(2, 1), 0);
            due("CANDIDATES", x.gained(0), 8);
            due("GAIN", x.gained(2), 2 * (269 - 238) - 39);
            x.tell(0, 0);
            outIs(x, "ABCD");
        });
        test(MOST, "the eighth by bytes is one", x -> {
            sampleFours(x, 7);
            x.samples("wxyz1wxyz2wxyz", "3wxyz4wxyz");
            due("train(2, 1)", x.train(2, 1), 0);
            due("GAIN", x.gained(2), (75 - 31) + (63 - 28) - 39);
            x.tell(0, 0);
            outIs(x, "wxyz");
        });
        test(MOST, "a shorter one is none, though it is the first by bytes", x -> {
            sampleFours(x, 8);
            x.samples("012a012b012c012", "d012e012f012");
            due("train(2, 1)", x.train(2, 1), 0);
            x.tell(0, 0);
            outIs(x, "ABCD");
        });
        test(MOST, "a shorter one, the first by bytes, is the eighth", x -> {
            sampleFours(x, 7);
            x.samples("012a012b012c012", "d012e012f012");
            due("train(2, 1)", x.train(2, 1), 0);
            x.tell(0, 0);
            outIs(x, "012");
        });
        test(MOST, "those in two SAMPLES are none beside 8 in three, though they are longer", x -> {
            x.samples("abcdefghijkl1", "2abcdefghijkl");
            x.samples("mnopqr3", "4mnopqr", "5mnopqr6");
            due("train(2, 6)", x.train(2, 6), 0);
            due("CANDIDATES", x.gained(0), 8);
            for (int k = 0; k < x.about(0, 1); k++) due("its size", x.tell(0, k) <= 6 ? 1 : 0, 1);
            x.tell(0, 0);
            outIs(x, "mnopqr");
        });
        test(MOST, "one in three SAMPLES goes ahead of longer ones in two", x -> {
            sampleFours(x, 8);
            x.samples("zyx1zyx2zyx", "3zyx4zyx", "5zyx");
            due("train(2, 1)", x.train(2, 1), 0);
            x.tell(0, 0);
            outIs(x, "zyx");
        });
        test(MOST, "likewise, though the longer ones come behind", x -> {
            x.samples("mnopqr3", "4mnopqr", "5mnopqr6");
            x.samples("abcdefghijkl1", "2abcdefghijkl");
            due("train(2, 6)", x.train(2, 6), 0);
            for (int k = 0; k < x.about(0, 1); k++) due("its size", x.tell(0, k) <= 6 ? 1 : 0, 1);
            x.tell(0, 0);
            outIs(x, "mnopqr");
        });
        test(MOST, "the ninth by bytes, by the third of them, is none, though it would gain most", x -> {
            sampleThrees(x, 8);
            due("train(2, 1)", x.train(2, 1), 0);
            due("CANDIDATES", x.gained(0), 8);
            due("GAIN", x.gained(2), 2 * (259 - 238) - 29);
            x.tell(0, 0);
            outIs(x, "xya");
        });
        test(MOST, "the eighth by bytes, by the third of them, is one", x -> {
            sampleThrees(x, 7);
            due("train(2, 1)", x.train(2, 1), 0);
            due("GAIN", x.gained(2), (81 - 45) + (71 - 42) - 29);
            x.tell(0, 0);
            outIs(x, "xyi");
        });
        test(MOST, "none of an earlier TRAINING", x -> {
            x.samples("abcdef", "abcdef");
            x.train(2, 6);
            due("CANDIDATES", x.gained(0), 8);
            x.forget();
            x.samples("xyz", "xyz");
            due("train(2, 6)", x.train(2, 6), 1);
            due("CANDIDATES", x.gained(0), 1);
            x.tell(1, 0);
            outIs(x, "xyz");
        });
        test(MOST, "none that goes on behind the end of a SAMPLE", x -> {
            x.samples("xabc", "yabc\0\0\0");
            due("train(2, 6)", x.train(2, 6), 0);
            due("CANDIDATES", x.gained(0), 1);
        });
        test(MOST, "bytes above 127 are behind those below", x -> {
            sampleFours(x, 7);
            x.samples("\u0080\u0081\u0082\u0083" + "1abcd", "abcd2" + "\u0080\u0081\u0082\u0083");
            due("train(2, 6)", x.train(2, 6), 0);
            boolean low = false, high = false;
            for (int k = 0; k < x.about(0, 1); k++) {
                x.tell(0, k);
                low |= x.out(0) == 'a';
                high |= x.out(0) == 128;
            }
            due("abcd is a CANDIDATE", low ? 1 : 0, 1);
            due("that above 127 is none", high ? 1 : 0, 0);
        });
    }

    private void gains() {
        promise(20);
        test(ABOVE, "RANKED: a GAIN of 1 is enough", x -> {
            x.samples("1234xyz5678", "ABCDxyzEFGHIJKL");
            due("train(2, 6)", x.train(2, 6), 0);
            due("GAIN", x.gained(2), 16 + 14 - 29);
        });
        test(ABOVE, "CUT: a GAIN of 1 is enough", x -> {
            x.samples("12xyz34", "ABCDxyzEFGH");
            due("train(1, 6)", x.train(1, 6), 0);
            due("GAIN", x.gained(2), 16 + 14 - 29);
        });
        test(ABOVE, "CUT: a GAIN of 0 is not", x -> {
            x.samples("xyz1234", "ABCDEFGHIJKLMNOPxyzabcdefghijklmnop");
            due("train(1, 6)", x.train(1, 6), NONE);
        });
        test(ABOVE, "a GAIN of -1 is not", x -> {
            x.samples("1234xyz5678", "abcdxyzefgh");
            due("train(1, 6)", x.train(1, 6), NONE);
        });
        test(ABOVE, "a second PIECE that gains nothing is not taken", x -> {
            x.samples("abcdef", "abcdef");
            due("train(2, 6)", x.train(2, 6), 0);
            due("PIECES", x.about(0, 1), 1);
            due("gained(1)", x.gained(1), 1);
        });
        test(GAIN, "sizes 3, 4, 7, 8 and 12 cost 2 + G(size) + 8 * size", x -> {
            int[] sizes = {3, 4, 7, 8, 12};
            int[] prices = {29, 39, 63, 73, 105};
            for (int i = 0; i < sizes.length; i++) {
                x.forget();
                x.samples(fresh(sizes[i]), fresh(sizes[i]));
                x.train(2, 1);
                due("GAIN", x.gained(2), 2 * (prices[i] - 3) - prices[i]);
            }
        });
        test(GAIN, "as the last PIECE: the second is PIECE 1, and costs 5", x -> {
            x.samples("abcd1efgh", "abcd2efgh");
            x.train(2, 6);
            due("the first", x.gained(2), 2 * (81 - 50) - 39);
            due("the second", x.gained(3), 2 * (50 - 19) - 39);
        });
        test(GAIN, "CUT: a greater ROW makes what is TOLD dearer", x -> {
            x.samples("abcd1efgh", "abcd2efgh");
            due("train", x.train(1, 6), 0);
            due("the first", x.gained(2), 2 * (81 - 8 - 47) - 39);
            due("the second", x.gained(3), 2 * (8 + 47 - 9 - 11 - 9) - 39);
            due("PIECES", x.gained(1), 2);
        });
    }

    private void ties() {
        promise(20);
        test(GREATEST, "as great a GAIN, the longest: quapng, not lmwb, both 51", x -> {
            x.samples("FfjadjilmwbOquapng", "quapngquapng", "lmwbTwkqms", "Rlmwb");
            x.train(2, 1);
            due("GAIN", x.gained(2), 51);
            x.tell(0, 0);
            outIs(x, "quapng");
        });
        test(GREATEST, "as great and as long, the first by bytes, which comes last", x -> {
            x.samples("xyzw1abcd", "xyzw2abcd");
            x.train(2, 6);
            due("the first", x.gained(2), 23);
            x.tell(0, 0);
            outIs(x, "abcd");
            x.tell(0, 1);
            outIs(x, "xyzw");
        });
        test(GREATEST, "as great and as long, the first by bytes, which comes first", x -> {
            x.samples("abcd1xyzw", "abcd2xyzw");
            x.train(2, 6);
            x.tell(0, 0);
            outIs(x, "abcd");
        });
        test(GREATEST, "bytes above 127 are behind those below", x -> {
            x.samples("\u0081\u0082\u0083\u0084" + "1" + "\u0011\u0012\u0013\u0014",
                    "\u0081\u0082\u0083\u0084" + "2" + "\u0011\u0012\u0013\u0014");
            x.train(2, 6);
            x.tell(0, 0);
            outIs(x, "\u0011\u0012\u0013\u0014");
        });
        test(GREATEST, "they differ in their last byte alone", x -> {
            x.samples("abce", "abce", "abcd", "abcd");
            x.train(2, 1);
            due("GAIN", x.gained(2), 2 * (39 - 3) + 2 * (39 - 6 - 11) - 39);
            due("its size", x.tell(0, 0), 4);
            outIs(x, "abcd");
        });
        test(GREATEST, "they differ in their last byte alone, the other way round", x -> {
            x.samples("abcd", "abcd", "abce", "abce");
            x.train(2, 1);
            x.tell(0, 0);
            outIs(x, "abcd");
        });
        test(GREATEST, "they differ in their last byte alone, behind other bytes", x -> {
            x.samples("123abce", "456abce", "789abcd", "!?-abcd");
            x.train(2, 1);
            due("GAIN", x.gained(2), 2 * (63 - 32) + 2 * (63 - 46) - 39);
            x.tell(0, 0);
            outIs(x, "abcd");
        });
        test(GREATEST, "as great and as long, the first by bytes, though the other is in more SAMPLES", x -> {
            x.samples("12bcde3456", "78bcde90", "!bcde@#$%", "afgh1afgh", "afgh2afgh3afgh");
            x.train(2, 1);
            due("GAIN", x.gained(2), 82 - 39);
            x.tell(0, 0);
            outIs(x, "afgh");
        });
        test(GREATEST, "as great, the longest by one byte, though the other is in more SAMPLES", x -> {
            x.samples("12bcde3456", "78bcde90", "!bcde@#$%", "vwxyz", "vwxyz1vwxyz");
            x.train(2, 1);
            due("GAIN", x.gained(2), 90 - 47);
            x.tell(0, 0);
            outIs(x, "vwxyz");
        });
        test(GREATEST, "the greatest, though another is longer and the first by bytes", x -> {
            x.samples("abcde1wxyz2wxyz3wxyz", "4wxyz5abcde", "wxyz");
            x.train(2, 1);
            x.tell(0, 0);
            outIs(x, "wxyz");
        });
        test("(RANKED: PIECES are numbered as they were taken.)", "six of them", x -> {
            sampleFours(x, 8);
            x.train(2, 6);
            for (int k = 0; k < 6; k++) {
                x.tell(0, k);
                due("PIECE " + k, x.out(), FOURS[k]);
            }
        });
    }

    private void numberOfPieces() {
        promise(20);
        int[] gains = {23, 15, 15, 11, 15, 11};
        for (int most = 1; most <= 6; most++) {
            int pieces = most;
            test(ABOVE, "at most " + pieces + " PIECES, though 8 would gain", x -> {
                sampleFours(x, 8);
                due("train", x.train(2, pieces), 0);
                due("PIECES", x.about(0, 1), pieces);
                due("gained(1)", x.gained(1), pieces);
                for (int k = 0; k < pieces; k++) due("GAIN " + k, x.gained(2 + k), gains[k]);
                due("no GAIN more", x.gained(2 + pieces), NONE);
            });
        }
        test(ABOVE, "fewer than there may be, when no more gain", x -> {
            x.samples("abcd1efgh", "abcd2efgh");
            x.train(2, 3);
            due("PIECES", x.about(0, 1), 2);
        });
    }

    private void gained() {
        promise(21);
        String latest = "Of the latest TRAINING that made a BOOK: what 0 how many CANDIDATES there were (8 at most), "
                + "1 how many PIECES, 2 + k the GAIN of PIECE k as it was taken.";
        String none = "NONE: there is none such.";
        test(none, "no TRAINING", x -> {
            for (int what = 0; what <= 8; what++) due("gained(" + what + ")", x.gained(what), NONE);
        });
        test(none, "a TRAINING that made no BOOK", x -> {
            x.train(2, 6);
            due("gained(0)", x.gained(0), NONE);
            due("gained(1)", x.gained(1), NONE);
        });
        test(none, "a BOOK that was not trained", x -> {
            x.book(2, "abc");
            due("gained(1)", x.gained(1), NONE);
        });
        test(none, "one PIECE: what 2 and 3", x -> {
            x.samples("abcdef", "abcdef");
            x.train(2, 6);
            due("gained(2)", x.gained(2), 110 - 6 - 55);
            due("gained(3)", x.gained(3), NONE);
            due("gained(7)", x.gained(7), NONE);
            due("gained(8)", x.gained(8), NONE);
        });
        test(none, "six PIECES: what 7 and 8", x -> {
            sampleFours(x, 8);
            x.train(2, 6);
            due("gained(7)", x.gained(7), 11);
            due("gained(8)", x.gained(8), NONE);
            due("gained(9)", x.gained(9), NONE);
        });
        test(none, "fewer PIECES than by the TRAINING before", x -> {
            sampleFours(x, 8);
            x.train(2, 6);
            x.train(2, 2);
            due("gained(1)", x.gained(1), 2);
            due("gained(3)", x.gained(3), 15);
            due("gained(4)", x.gained(4), NONE);
        });
        test("BAD: what is below 0.", "-1, with a TRAINING and without", x -> {
            due("gained(-1)", x.gained(-1), BAD);
            x.samples("abcdef", "abcdef");
            x.train(2, 6);
            due("gained(-1)", x.gained(-1), BAD);
        });
        test(latest, "1 and 8 CANDIDATES", x -> {
            x.samples("abc", "abc");
            x.train(2, 6);
            due("gained(0)", x.gained(0), 1);
            x.samples("defghi", "defghi");
            x.train(2, 6);
            due("gained(0)", x.gained(0), 8);
        });
        test(latest, "one that makes no BOOK changes nothing", x -> {
            sampleFours(x, 8);
            x.train(2, 2);
            x.forget();
            x.samples("1234xyz5678", "abcdxyzefgh");
            due("train(1, 6)", x.train(1, 6), NONE);
            due("train(1, 7)", x.train(1, 7), BAD);
            due("gained(0)", x.gained(0), 8);
            due("gained(1)", x.gained(1), 2);
            due("gained(2)", x.gained(2), 23);
            due("gained(3)", x.gained(3), 15);
        });
        test(latest, "one that is refused for want of room changes nothing", x -> {
            sampleFours(x, 8);
            x.train(2, 2);
            x.emptyBooks(23);
            due("train(2, 6)", x.train(2, 6), FULL);
            due("gained(1)", x.gained(1), 2);
            due("gained(4)", x.gained(4), NONE);
        });
        test(latest, "book() changes nothing", x -> {
            x.samples("abc", "abc");
            x.train(2, 6);
            x.book(2, "abcdef", "xyz");
            due("gained(1)", x.gained(1), 1);
        });
    }

    private void price() {
        promise(22);
        String least = "The LEAST PRICE of all SAMPLES together with a BOOK (or NONE).";
        test(least, "no SAMPLES", x -> {
            x.book(2, "abc");
            due("price(0)", x.price(0), 0);
            due("price(NONE)", x.price(NONE), 0);
        });
        test(least, "8 of 40 bytes", x -> {
            for (int i = 0; i < 8; i++) x.sample(fresh(40));
            due("price(NONE)", x.price(NONE), 8 * 333);
        });
        test(least, "each is a letter of its own: none is FAR of another", x -> {
            x.samples("abcdef", "abcdef");
            due("price(NONE)", x.price(NONE), 110);
        });
        test(least, "with a BOOK of each KIND", x -> {
            for (int kind = 0; kind <= 2; kind++) x.book(kind, "abcdef");
            x.samples("abcdef", "abcdefabcdef");
            due("price(NONE)", x.price(NONE), 55 + 55 + 10);
            due("price(0)", x.price(0), 10 + 20);
            due("price(1)", x.price(1), 10 + 20);
            due("price(2)", x.price(2), 3 + 6);
        });
        test("BAD.", "-2, and the BOOK behind the last", x -> {
            x.book(0);
            x.sample("abc");
            due("price(-2)", x.price(-2), BAD);
            due("price(1)", x.price(1), BAD);
            due("price(0)", x.price(0), 29);
        });
        test("BAD.", "23 and 24 of 24 BOOKS", x -> {
            x.emptyBooks(24);
            x.sample("abc");
            due("price(23)", x.price(23), 29);
            due("price(24)", x.price(24), BAD);
        });
        test(least, "tape, OUT and THE PARTS stay", x -> {
            x.pack("zz", NONE);
            x.load("tape");
            x.sample();
            x.load("more");
            due("price(NONE)", x.price(NONE), 39);
            partsAre(x, own(2));
            bitsAre(x, "00000 011 00 010 01111010 01111010");
            due("the tape", x.tape(), "more");
        });
    }
}
