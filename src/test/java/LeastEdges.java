/** Promise 11: which of several rows of PARTS is LEAST. */
final class LeastEdges extends Edges {
    private static final String PRICE = "LEAST is that row of PARTS whose PRICE is the least";
    private static final String FEWEST = "of several that of fewest PARTS";
    private static final String FIRST = "of these that whose first PART is the least, then the second, and so on";
    private static final String ORDER = "PARTS are compared by their kinds, then by p (k; of OWN nothing), "
            + "then by n, the lesser first.";

    @Override
    void run() {
        promise(11);
        prices();
        fewest();
        kinds();
        places();
        sizes();
    }

    private void prices() {
        test(PRICE, "two PARTS for 8 bits, not one for 9", x -> {
            x.book(2, "ab", "cd", "11", "22", "33", "44", "55", "abcd");
            due("pack", x.pack("abcd", 0), 3 + 5);
            partsAre(x, whole(0, 2), whole(1, 2));
        });
        test(PRICE, "one PART for 5 bits, not two for 6", x -> {
            x.book(2, "ab", "abab");
            due("pack", x.pack("abab", 0), 5);
            partsAre(x, whole(1, 4));
        });
        test(PRICE, "a WHOLE of 3 bytes for 5, not one of 2 for 3 and an OWN", x -> {
            x.book(2, "ab", "abc");
            due("pack", x.pack("abc", 0), 5);
            partsAre(x, whole(1, 3));
        });
        test(PRICE, "a bcde for 19, though abc can be TOLD at once", x -> {
            x.book(1, "abc", "bcde");
            due("pack", x.pack("abcde", 0), 11 + 8);
            partsAre(x, own(1), told(3, 4));
            due("greedy", x.greedy("abcde", 0), 6 + 22);
        });
    }

    private void fewest() {
        test(FEWEST, "OWN 4 and FAR 3 for 39 + 6, not OWN 3, FAR 3 and OWN 1 for 29 + 5 + 11", x -> {
            due("pack", x.pack("aaaaaaa", NONE), 45);
            partsAre(x, own(4), far(0, 3));
        });
        test(FEWEST, "one TOLD for 10, not two WHOLE for 5 + 5", x -> {
            x.book(2, "zz", "ab", "cd", "xabcdyyyyy");
            due("pack", x.pack("abcd", 0), 10);
            partsAre(x, told(7, 4));
        });
        test(FEWEST, "a WHOLE for 9 at last, not FAR and WHOLE for 6 + 3, though FAR is ahead of WHOLE", x -> {
            x.book(2, "de", "abcx", "11", "22", "33", "44", "55", "abcde");
            due("pack", x.pack("abcxabcde", 0), 5 + 9);
            partsAre(x, whole(1, 4), whole(7, 5));
        });
        test(FEWEST, "likewise ahead of one PART more", x -> {
            x.book(2, "de", "abcx", "11", "22", "33", "44", "55", "abcde");
            due("pack", x.pack("abcxabcdeQ", 0), 5 + 9 + 11);
            partsAre(x, whole(1, 4), whole(7, 5), own(1));
        });
    }

    private void kinds() {
        test(ORDER, "OWN ahead of TOLD: a bcd, not abc d", x -> {
            x.book(1, "abc", "bcd");
            due("pack", x.pack("abcd", 0), 11 + 6);
            partsAre(x, own(1), told(3, 3));
        });
        test(ORDER, "OWN ahead of FAR: a bcd, not abc d", x -> {
            x.book(0, "abc.bcd.ZZZZZZZZ");
            due("pack", x.pack("abc.bcd.abcd", 0), 12 + 11 + 7);
            partsAre(x, told(0, 8), own(1), far(4, 3));
        });
        test(ORDER, "OWN ahead of WHOLE: a ba, not ab a", x -> {
            x.book(2, "zz", "ab", "ba");
            due("pack", x.pack("aba", 0), 11 + 5);
            partsAre(x, own(1), whole(2, 2));
        });
        test(ORDER, "TOLD ahead of FAR, both for 8", x -> {
            x.book(0, "abcdef");
            due("pack", x.pack("abcdabcd", 0), 8 + 8);
            partsAre(x, told(0, 4), told(0, 4));
        });
        test(ORDER, "TOLD ahead of WHOLE, both for 7", x -> {
            x.book(2, "00", "11", "22", "abc");
            due("pack", x.pack("abc", 0), 7);
            partsAre(x, told(6, 3));
        });
        test(ORDER, "FAR ahead of WHOLE, both for 5", x -> {
            x.book(2, "zz", "abc");
            due("pack", x.pack("abcabc", 0), 5 + 5);
            partsAre(x, whole(1, 3), far(0, 3));
        });
        test(FIRST, "the third PART: TOLD ahead of FAR", x -> {
            x.book(0, "abcdef");
            due("pack", x.pack("xabcdabcd", 0), 11 + 8 + 8);
            partsAre(x, own(1), told(0, 4), told(0, 4));
        });
    }

    private void places() {
        test(ORDER, "the least p of a TOLD, in two PIECES", x -> {
            x.book(1, "abc", "xabcy", "abcd");
            due("pack", x.pack("abc", 0), 7);
            partsAre(x, told(0, 3));
        });
        test(ORDER, "the least p of a TOLD, in one PIECE", x -> {
            x.book(0, "xabcyabcz");
            due("pack", x.pack("abc", 0), 7);
            partsAre(x, told(1, 3));
        });
        test(ORDER, "the least p of a FAR", x -> {
            due("pack", x.pack("abc1abc2abc", NONE), 39 + 6 + 11 + 7);
            partsAre(x, own(4), far(0, 3), own(1), far(0, 3));
        });
        test(ORDER, "the least p at which there are enough bytes", x -> {
            x.book(1, "abc", "xabcdy", "abcd");
            due("pack", x.pack("abcd", 0), 9);
            partsAre(x, told(4, 4));
        });
        test(ORDER, "the least k of two PIECES that are the same, both for 5", x -> {
            x.book(2, "zz", "ab", "ab");
            due("pack", x.pack("ab", 0), 5);
            partsAre(x, whole(1, 2));
        });
        test(ORDER, "k ahead of n: abcd ef, not ab cdef, both for 12", x -> {
            x.book(2, "zz", "abcd", "ab", "ef", "cdef");
            due("pack", x.pack("abcdef", 0), 5 + 7);
            partsAre(x, whole(1, 4), whole(3, 2));
        });
    }

    private void sizes() {
        test(ORDER, "the least n of an OWN: x abc dy, not xa bcd y", x -> {
            x.book(1, "abc", "bcd");
            due("pack", x.pack("xabcdy", 0), 11 + 6 + 21);
            partsAre(x, own(1), told(0, 3), own(2));
        });
        test(ORDER, "the least n of a TOLD: 5 and 4, not 6 and 3, both for 17", x -> {
            x.book(0, "aaaaaaaa");
            due("pack", x.pack("aaaaaaaaa", 0), 9 + 8);
            partsAre(x, told(0, 5), far(0, 4));
        });
        test(FIRST, "the second PART, the least n of a FAR: 5 and 4, not 6 and 3, both for 19", x -> {
            due("pack", x.pack("abcdef.fghiabcdefghi", NONE), 97 + 9 + 10);
            partsAre(x, own(11), far(0, 5), far(7, 4));
        });
    }
}
