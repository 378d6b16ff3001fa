/** Promise 12: GREEDY. */
final class GreedyEdges extends Edges {
    private static final String WHOLES = "GREEDY: at each byte: if a WHOLE can be, that of the longest PIECE "
            + "(of several the least k)";
    private static final String COPIES = "else, of TOLD and FAR, that of the greatest n (TOLD ahead of FAR, then the least p)";
    private static final String OWNS = "else OWN of one byte. Its PRICE, each OWN with n = 1.";

    @Override
    void run() {
        promise(12);
        letters();
        wholes();
        copies();
        owns();
        stays();
    }

    private void letters() {
        test("THE PRICE of the tape as a letter, GREEDY.", "no bytes", x -> {
            due("greedy(NONE)", x.greedy(NONE), 0);
            x.book(2, "ab");
            due("greedy(0)", x.greedy(0), 0);
        });
        test("THE PRICE of the tape as a letter, GREEDY.", "PARTS of all kinds together", x -> {
            x.book(2, "abcdef", "xyz");
            due("greedy", x.greedy("QxyzbcdeQbcde", 0), 11 + 5 + 9 + 11 + 9);
        });
        test("BAD, as for pack().", "120 bytes", x -> due("greedy", x.greedy(fresh(120), NONE), 1320));
        test("BAD, as for pack().", "121 bytes", x -> {
            due("greedy", x.greedy(fresh(121), NONE), BAD);
            due("count(3)", x.count(3), 0);
        });
        test("BAD, as for pack().", "240 bytes", x -> due("greedy", x.greedy(fresh(240), NONE), BAD));
        test("BAD, as for pack().", "-2, and the BOOK behind the last", x -> {
            x.book(0, "abc");
            due("greedy", x.greedy("abc", -2), BAD);
            due("count(3)", x.count(3), 0);
            due("greedy", x.greedy("abc", 1), BAD);
            due("count(3)", x.count(3), 0);
        });
        test("BAD, as for pack().", "23 and 24 of 24 BOOKS", x -> {
            x.emptyBooks(23);
            x.book(0, "abc");
            due("greedy", x.greedy("abc", 23), 5);
            due("greedy", x.greedy("abc", 24), BAD);
        });
        test("BAD, as for pack().", "neither book nor letter", x -> due("greedy", x.greedy(fresh(121), 0), BAD));
    }

    private void wholes() {
        test(WHOLES, "the longest, though two shorter ones cost less", x -> {
            x.book(2, "ab", "cd", "11", "22", "33", "44", "55", "abcd");
            due("greedy", x.greedy("abcd", 0), 9);
        });
        test(WHOLES, "the longest, though what is left then costs more", x -> {
            x.book(2, "ab", "cde", "abc");
            due("greedy", x.greedy("abcde", 0), 5 + 11 + 11);
            due("pack", x.pack("abcde", 0), 3 + 5);
        });
        test(WHOLES, "the least k of two that are the same", x -> {
            x.book(2, "abc", "11", "22", "abc");
            due("greedy", x.greedy("abc", 0), 3);
        });
        test(WHOLES, "the last k of 20", x -> {
            for (int i = 0; i < 20; i++) x.piece(fresh(2 * i, 2));
            x.book(2);
            due("greedy", x.greedy(fresh(38, 2), 0), 11);
        });
        test(WHOLES, "ahead of a longer TOLD", x -> {
            x.book(2, "ab", "xabcdef");
            due("greedy", x.greedy("abcdef", 0), 3 + 9);
        });
        test(WHOLES, "ahead of a longer FAR", x -> {
            x.book(2, "ab");
            due("greedy", x.greedy("abcdabcd", 0), 3 + 22 + 3 + 22);
        });
        test(WHOLES, "none that goes beyond the letter", x -> {
            x.book(2, "abcd", "ab");
            due("greedy", x.greedy("abc", 0), 5 + 11);
        });
        test(WHOLES, "none with a CUT one", x -> {
            x.book(1, "ab", "cde");
            due("greedy", x.greedy("abcde", 0), 22 + 6);
        });
        test(WHOLES, "none with a PLAIN one", x -> {
            x.book(0, "ab");
            due("greedy", x.greedy("ab", 0), 22);
        });
    }

    private void copies() {
        test(COPIES, "a TOLD of 3 bytes, not of 2", x -> {
            x.book(0, "abc");
            due("greedy abc", x.greedy("abc", 0), 5);
            due("greedy ab", x.greedy("ab", 0), 22);
        });
        test(COPIES, "a FAR of 3 bytes, not of 2", x -> {
            due("greedy abcabc", x.greedy("abcabc", NONE), 33 + 5);
            due("greedy abab", x.greedy("abab", NONE), 44);
        });
        test(COPIES, "the longer FAR, not the TOLD", x -> {
            x.book(0, "abc");
            due("greedy", x.greedy("abczabcz", 0), 5 + 11 + 8);
        });
        test(COPIES, "the longer TOLD, not the FAR", x -> {
            x.book(0, "abcdefgh");
            due("greedy", x.greedy("abcxabcdef", 0), 7 + 11 + (2 + 4 + 5));
        });
        test(COPIES, "TOLD ahead of FAR of as many bytes, though it costs more", x -> {
            x.book(0, "abc" + "0123456789;:<");
            due("greedy", x.greedy("abcabc", 0), 8 + 8);
        });
        test(COPIES, "TOLD ahead of FAR of as many bytes, when it costs less", x -> {
            x.book(0, "abc");
            due("greedy", x.greedy("vwxyzabc12abc", 0), 5 * 11 + 5 + 22 + 5);
        });
        test(COPIES, "the greatest n of several TOLD, the last of them", x -> {
            x.book(1, "abc", "abcd", "abcde");
            due("greedy", x.greedy("abcde", 0), 2 + 4 + 3);
        });
        test(COPIES, "the greatest n of several FAR, the last of them", x -> {
            due("greedy", x.greedy("abc1abcde2abcde", NONE), 44 + 6 + 22 + 11 + (2 + 4 + 3));
        });
        test(COPIES, "120 bytes of a ROW of 200", x -> {
            x.book(0, fresh(200));
            due("greedy", x.greedy(fresh(80, 120), 0), 2 + 8 + 13);
        });
        test(COPIES, "a TOLD not over an END", x -> {
            x.book(1, "abc", "def");
            due("greedy", x.greedy("abcdef", 0), 6 + 6);
        });
        test(COPIES, "a FAR not of byte i itself", x -> {
            due("5 bytes", x.greedy("aaaaa", NONE), 55);
            due("6 bytes", x.greedy("aaaaaa", NONE), 33 + 5);
            due("7 bytes", x.greedy("aaaaaaa", NONE), 33 + 5 + 11);
        });
    }

    private void owns() {
        test(OWNS, "one byte", x -> due("greedy", x.greedy("a", NONE), 11));
        test(OWNS, "two of them cost 22, not 21", x -> due("greedy", x.greedy("ab", NONE), 22));
        test(OWNS, "between others", x -> {
            x.book(2, "ab");
            due("greedy", x.greedy("xabyzabw", 0), 11 + 3 + 22 + 3 + 11);
        });
        test(OWNS, "with a BOOK of 0 bytes", x -> {
            x.book(0);
            due("greedy", x.greedy("abc", 0), 33);
        });
    }

    private void stays() {
        String stay = "(OUT and THE PARTS stay.)";
        test(stay, "behind pack()", x -> {
            x.pack("zz", NONE);
            x.greedy("abcdefg", NONE);
            partsAre(x, own(2));
            bitsAre(x, "00000 011 00 010 01111010 01111010");
            due("rest(0)", x.rest(0), 21);
            due("rest(1)", x.rest(1), 11);
            due("rest(3)", x.rest(3), BAD);
        });
        test(stay, "when it is refused", x -> {
            x.pack("zz", NONE);
            x.greedy("abc", 4);
            x.greedy(fresh(121), NONE);
            partsAre(x, own(2));
            bitsAre(x, "00000 011 00 010 01111010 01111010");
        });
        test(stay, "when there are none", x -> {
            x.greedy("abc", NONE);
            due("part(0, 0)", x.part(0, 0), NONE);
            due("count(4)", x.count(4), 0);
        });
    }
}
