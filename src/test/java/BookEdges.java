/** Promises 6 to 10: THE DRAFT, BOOKS, what is told of them. */
final class BookEdges extends Edges {
    private static final String SIXTEEN = "abcdefghijklmnop";

    @Override
    void run() {
        piece();
        plainBooks();
        cutBooks();
        manyBooks();
        draft();
        about();
        tell();
        isOf();
    }

    private void piece() {
        promise(6);
        String more = "THE DRAFT gets one more PIECE, the tape: how many it has.";
        test(more, "the first to the twentieth", x -> {
            for (int i = 1; i <= 20; i++) due("piece " + i, x.piece("ab"), i);
            due("count(2)", x.count(2), 20);
        });
        test(more, "the bytes of the tape", x -> {
            x.piece("abc");
            x.piece("de");
            x.book(1);
            x.tell(0, 0);
            due("PIECE 0", x.out(), "abc");
            x.tell(0, 1);
            due("PIECE 1", x.out(), "de");
        });
        String bad = "BAD: it has no bytes, or more than 200";
        test(bad, "no bytes", x -> {
            due("piece()", x.piece(), BAD);
            due("count(2)", x.count(2), 0);
        });
        test(bad, "one byte", x -> due("piece()", x.piece("a"), 1));
        test(bad, "200 bytes", x -> {
            due("piece()", x.piece(fresh(200)), 1);
            x.book(0);
            due("tell(0, 0)", x.tell(0, 0), 200);
            outIs(x, fresh(200));
        });
        test(bad, "201 bytes", x -> {
            due("piece()", x.piece(fresh(201)), BAD);
            due("count(2)", x.count(2), 0);
        });
        test(bad, "240 bytes", x -> {
            due("piece()", x.piece(fresh(240)), BAD);
            due("count(2)", x.count(2), 0);
        });
        test("FULL: 20.", "the twenty-first", x -> {
            for (int i = 1; i <= 20; i++) x.piece("ab");
            due("piece()", x.piece("ab"), FULL);
            due("count(2)", x.count(2), 20);
        });
        test("FULL: 20.", "twenty of 200 bytes each, and one of 1", x -> {
            for (int i = 1; i <= 20; i++) due("piece " + i, x.piece(fresh(i, 200)), i);
            due("piece()", x.piece("a"), FULL);
            due("book(0)", x.book(0), BAD);
            due("book(1)", x.book(1), BAD);
        });
        test("FULL: 20.", "once it is a BOOK there is room for twenty more", x -> {
            for (int i = 1; i <= 20; i++) x.piece("ab");
            x.book(1);
            for (int i = 1; i <= 20; i++) due("piece " + i, x.piece("cd"), i);
            due("piece()", x.piece("cd"), FULL);
        });
        test("(THE DRAFT is empty at first.)", "no PIECE yet", x -> {
            due("count(2)", x.count(2), 0);
            due("book(1)", x.book(1), BAD);
            due("piece()", x.piece("ab"), 1);
        });
    }

    private void plainBooks() {
        promise(7);
        String plain = "0 PLAIN: one PIECE of 0 to 200 bytes.";
        String none = "(of PLAIN none, which is then one of 0 bytes, or one)";
        test(none, "no PIECE", x -> {
            due("book(0)", x.book(0), 0);
            due("its KIND", x.about(0, 0), 0);
            due("its PIECES", x.about(0, 1), 1);
            due("its ROW", x.about(0, 2), 0);
            due("tell(0, 0)", x.tell(0, 0), 0);
            due("count(2)", x.count(2), 0);
        });
        test(none, "one PIECE", x -> {
            due("book(0)", x.book(0, "abc"), 0);
            due("its PIECES", x.about(0, 1), 1);
            due("its ROW", x.about(0, 2), 3);
        });
        test(none, "two PIECES", x -> {
            due("book(0)", x.book(0, "abc", "def"), BAD);
            due("count(0)", x.count(0), 0);
        });
        test(plain, "a PIECE of 1 byte", x -> {
            due("book(0)", x.book(0, "a"), 0);
            due("its ROW", x.about(0, 2), 1);
        });
        test(plain, "a PIECE of 200 bytes", x -> {
            due("book(0)", x.book(0, fresh(200)), 0);
            due("its ROW", x.about(0, 2), 200);
        });
    }

    private void cutBooks() {
        promise(7);
        String cut = "1 CUT: 1 to 20 PIECES of 2 to 16 bytes.";
        String ranked = "2 RANKED: like CUT.";
        for (int kind = 1; kind <= 2; kind++) {
            int made = kind;
            String sentence = kind == 1 ? cut : ranked;
            test(sentence, "no PIECE", x -> {
                due("book", x.book(made), BAD);
                due("count(0)", x.count(0), 0);
            });
            test(sentence, "1 PIECE", x -> {
                due("book", x.book(made, "abc"), 0);
                due("its KIND", x.about(0, 0), made);
                due("its PIECES", x.about(0, 1), 1);
            });
            test(sentence, "20 PIECES of 16 bytes", x -> {
                for (int i = 0; i < 20; i++) x.piece(SIXTEEN);
                due("book", x.book(made), 0);
                due("its PIECES", x.about(0, 1), 20);
                due("its ROW", x.about(0, 2), 320);
                due("tell(0, 19)", x.tell(0, 19), 16);
                outIs(x, SIXTEEN);
            });
            test(sentence, "a PIECE of 1 byte", x -> due("book", x.book(made, "a"), BAD));
            test(sentence, "a PIECE of 2 bytes", x -> due("book", x.book(made, "ab"), 0));
            test(sentence, "a PIECE of 16 bytes", x -> due("book", x.book(made, SIXTEEN), 0));
            test(sentence, "a PIECE of 17 bytes", x -> due("book", x.book(made, SIXTEEN + "q"), BAD));
            test(sentence, "a PIECE of 200 bytes", x -> due("book", x.book(made, fresh(200)), BAD));
            test(sentence, "the first of three has 1 byte", x -> due("book", x.book(made, "a", "bc", "de"), BAD));
            test(sentence, "the second of three has 17", x -> due("book", x.book(made, "ab", SIXTEEN + "q", "cd"), BAD));
            test(sentence, "the last of three has 1 byte", x -> due("book", x.book(made, "ab", "cd", "e"), BAD));
        }
        test("BAD: kind, or its PIECES are not such ones", "kinds -1 and 3", x -> {
            x.piece("abc");
            due("book(-1)", x.book(-1), BAD);
            due("book(3)", x.book(3), BAD);
            due("count(0)", x.count(0), 0);
            due("count(2)", x.count(2), 1);
        });
        test("BAD: kind, or its PIECES are not such ones", "kinds -1 and 3 of no PIECES", x -> {
            due("book(-1)", x.book(-1), BAD);
            due("book(3)", x.book(3), BAD);
            due("count(0)", x.count(0), 0);
        });
    }

    private void manyBooks() {
        promise(7);
        test("BOOKS, numbered from 0 as they come, 24 at most in all", "the first to the last", x -> {
            for (int i = 0; i < 24; i++) due("book " + i, x.book(0), i);
            due("count(0)", x.count(0), 24);
        });
        test("BOOKS, numbered from 0 as they come, 24 at most in all", "trained ones among them", x -> {
            x.samples("abcdef", "abcdef");
            due("book(0)", x.book(0), 0);
            due("train(1, 1)", x.train(1, 1), 1);
            due("book(0)", x.book(0), 2);
            x.emptyBooks(20);
            due("train(2, 1)", x.train(2, 1), 23);
            due("book(0)", x.book(0), FULL);
        });
        test("FULL: 24 BOOKS.", "the twenty-fifth, of each KIND", x -> {
            x.emptyBooks(24);
            due("book(0) of no PIECE", x.book(0), FULL);
            x.piece("abc");
            for (int kind = 0; kind <= 2; kind++) due("book(" + kind + ")", x.book(kind), FULL);
            due("count(0)", x.count(0), 24);
            due("count(2)", x.count(2), 1);
        });
        test("THE DRAFT becomes a BOOK of a KIND (it is empty then): its number.", "the last, number 23, is whole", x -> {
            x.emptyBooks(23);
            due("book(2)", x.book(2, "abc", "de"), 23);
            due("about(23, 0)", x.about(23, 0), 2);
            due("tell(23, 1)", x.tell(23, 1), 2);
            outIs(x, "de");
        });
    }

    private void draft() {
        promise(7);
        String becomes = "THE DRAFT becomes a BOOK of a KIND (it is empty then): its number.";
        test(becomes, "nothing of it comes into the next BOOK", x -> {
            x.book(1, "abc", "def");
            due("count(2)", x.count(2), 0);
            due("book(1) of nothing", x.book(1), BAD);
            due("book(0) of nothing", x.book(0), 1);
            due("its ROW", x.about(1, 2), 0);
            x.book(1, "xy");
            due("its PIECES", x.about(2, 1), 1);
            x.tell(2, 0);
            outIs(x, "xy");
        });
        test(becomes, "an earlier BOOK stays as it is", x -> {
            x.book(1, "abc", "def");
            x.book(1, "xy", "zw", "uv");
            due("its PIECES", x.about(0, 1), 2);
            x.tell(0, 1);
            outIs(x, "def");
        });
        String stays = "(A refused call leaves THE DRAFT.)";
        test(stays, "a wrong kind", x -> {
            x.piece("abc");
            x.piece("de");
            x.book(3);
            x.book(-1);
            twoPieces(x);
        });
        test(stays, "PIECES that are not such ones", x -> {
            x.piece("abc");
            x.piece("de");
            x.book(0);
            twoPieces(x);
        });
        test(stays, "no room", x -> {
            x.emptyBooks(24);
            x.piece("abc");
            due("book(0)", x.book(0), FULL);
            due("count(2)", x.count(2), 1);
            due("piece()", x.piece("de"), 2);
        });
        test(stays, "a draft that fits no KIND stays for ever", x -> {
            x.piece("a");
            x.piece("b");
            for (int kind = 0; kind <= 2; kind++) due("book(" + kind + ")", x.book(kind), BAD);
            due("count(2)", x.count(2), 2);
        });
        test(stays, "an empty one, refused as CUT, has no PIECE then", x -> {
            due("book(1)", x.book(1), BAD);
            due("count(2)", x.count(2), 0);
            due("piece()", x.piece("ab"), 1);
        });
        test(stays, "an empty one, refused for want of room, has no PIECE then", x -> {
            x.emptyBooks(24);
            due("book(0)", x.book(0), FULL);
            due("count(2)", x.count(2), 0);
            due("piece()", x.piece("ab"), 1);
        });
    }

    private void twoPieces(Post x) {
        due("count(2)", x.count(2), 2);
        due("book(1)", x.book(1), 0);
        x.tell(0, 0);
        due("PIECE 0", x.out(), "abc");
        x.tell(0, 1);
        due("PIECE 1", x.out(), "de");
    }

    private void about() {
        promise(8);
        test("what 0 its KIND", "0, 1 and 2", x -> {
            for (int kind = 0; kind <= 2; kind++) x.book(kind, "abc");
            for (int kind = 0; kind <= 2; kind++) due("about", x.about(kind, 0), kind);
        });
        test("1 how many PIECES", "1 and 20", x -> {
            x.book(0);
            for (int i = 0; i < 20; i++) x.piece("ab");
            x.book(1);
            due("about(0, 1)", x.about(0, 1), 1);
            due("about(1, 1)", x.about(1, 1), 20);
        });
        test("2 the size of its ROW", "0, 200 and 320", x -> {
            x.book(0);
            x.book(0, fresh(200));
            for (int i = 0; i < 20; i++) x.piece(SIXTEEN);
            x.book(2);
            due("about(0, 2)", x.about(0, 2), 0);
            due("about(1, 2)", x.about(1, 2), 200);
            due("about(2, 2)", x.about(2, 2), 320);
        });
        test("each has a KIND and PIECES, rows of bytes:", "two BOOKS of the same PIECES, of two KINDS", x -> {
            x.book(1, "abc", "de");
            x.book(2, "abc", "de");
            for (int book = 0; book < 2; book++) {
                due("its KIND", x.about(book, 0), 1 + book);
                x.tell(book, 1);
                due("its PIECE 1", x.out(), "de");
            }
        });
        test("THE ROW of a BOOK: all PIECES one behind the other", "two PIECES", x -> {
            x.book(1, "abc", "de");
            due("about(0, 2)", x.about(0, 2), 5);
        });
        test("THE SENDER has all BOOKS; each is, to it, IDLE (at first), OFFERED, READY or OVER.", "one after the other", x -> {
            x.book(0, "abc");
            due("at first", x.about(0, 3), IDLE);
            x.offer(0);
            due("offered", x.about(0, 3), OFFERED);
            x.deliver(0);
            due("HELD", x.about(0, 3), OFFERED);
            x.deliver(1);
            due("YES came", x.about(0, 3), READY);
            x.over(0);
            due("given up", x.about(0, 3), OVER);
            x.deliver(2);
            due("GONE came", x.about(0, 3), OVER);
        });
        test("3 what it is to THE SENDER (0 IDLE, 1 OFFERED, 2 READY, 3 OVER)", "another BOOK is not touched", x -> {
            x.book(0, "abc");
            x.book(0, "abc");
            x.makeReady(0);
            due("about(0, 3)", x.about(0, 3), READY);
            due("about(1, 3)", x.about(1, 3), IDLE);
        });
        test("4 whether THE RECEIVER HOLDS it (1, 0)", "before, from the OFFER on, after", x -> {
            x.book(0, "abc");
            x.offer(0);
            due("offered", x.about(0, 4), 0);
            x.deliver(0);
            due("the OFFER came", x.about(0, 4), 1);
            x.deliver(1);
            x.over(0);
            due("given up", x.about(0, 4), 1);
            x.deliver(2);
            due("GONE came", x.about(0, 4), 0);
        });
        test("5 LETTERS sent with it.", "none, one, two; not those with others, not refused ones", x -> {
            x.book(0, "abc");
            x.book(0, "abc");
            x.send(0);
            due("refused", x.about(0, 5), 0);
            x.makeReady(0);
            x.makeReady(1);
            due("none", x.about(0, 5), 0);
            x.send(0);
            x.send(1);
            x.send(NONE);
            due("one", x.about(0, 5), 1);
            x.send(0);
            x.load(fresh(121));
            x.send(0);
            due("two", x.about(0, 5), 2);
            x.over(0);
            x.send(0);
            due("two", x.about(0, 5), 2);
        });
        test("5 LETTERS sent with it.", "198 of them, and no more", x -> {
            x.book(0, "abc");
            x.makeReady(0);
            for (int i = 0; i < 198; i++) x.send(0);
            due("about(0, 5)", x.about(0, 5), 198);
            due("send(0)", x.send(0), FULL);
            due("about(0, 5)", x.about(0, 5), 198);
        });
        test("BAD.", "what -1 and 6", x -> {
            x.book(0);
            due("about(0, -1)", x.about(0, -1), BAD);
            due("about(0, 6)", x.about(0, 6), BAD);
            due("about(0, 5)", x.about(0, 5), 0);
        });
        test("BAD.", "the BOOK behind the last, and NONE", x -> {
            x.book(0);
            x.book(0);
            for (int what = 0; what <= 5; what++) {
                due("about(2, " + what + ")", x.about(2, what), BAD);
                due("about(-1, " + what + ")", x.about(NONE, what), BAD);
            }
        });
        test("BAD.", "23 and 24 of 24 BOOKS", x -> {
            x.emptyBooks(24);
            due("about(23, 1)", x.about(23, 1), 1);
            due("about(24, 1)", x.about(24, 1), BAD);
        });
        test("Of a BOOK:", "it is looked at, not changed, and the tape is not read", x -> {
            x.book(0, "abc");
            x.load("xyz");
            for (int what = -1; what <= 6; what++) x.about(0, what);
            due("the tape", x.tape(), "xyz");
        });
    }

    private void tell() {
        promise(9);
        String becomes = "OUT becomes PIECE k of a BOOK: how many bytes.";
        test(becomes, "a PIECE of 0 bytes", x -> {
            x.book(0, "abc");
            x.book(0);
            x.tell(0, 0);
            due("tell(1, 0)", x.tell(1, 0), 0);
            outIs(x, "");
        });
        test(becomes, "a PIECE of 200 bytes", x -> {
            x.book(0, fresh(3, 200));
            due("tell(0, 0)", x.tell(0, 0), 200);
            outIs(x, fresh(3, 200));
        });
        test(becomes, "the first, the second and the last of 20", x -> {
            for (int i = 0; i < 20; i++) x.piece(fresh(10 * i, 2 + i % 15));
            x.book(2);
            due("tell(0, 0)", x.tell(0, 0), 2);
            outIs(x, fresh(0, 2));
            due("tell(0, 1)", x.tell(0, 1), 3);
            outIs(x, fresh(10, 3));
            due("tell(0, 19)", x.tell(0, 19), 6);
            outIs(x, fresh(190, 6));
        });
        test(becomes, "a shorter one behind a longer one", x -> {
            x.book(1, "abcdef", "xy");
            x.tell(0, 0);
            due("tell(0, 1)", x.tell(0, 1), 2);
            outIs(x, "xy");
        });
        test("BAD.", "k -1, and the PIECE behind the last", x -> {
            x.book(1, "abc", "de");
            x.tell(0, 1);
            due("tell(0, -1)", x.tell(0, -1), BAD);
            due("tell(0, 2)", x.tell(0, 2), BAD);
            outIs(x, "de");
        });
        test("BAD.", "19 and 20 of 20 PIECES", x -> {
            for (int i = 0; i < 20; i++) x.piece("ab");
            x.book(1);
            due("tell(0, 19)", x.tell(0, 19), 2);
            due("tell(0, 20)", x.tell(0, 20), BAD);
        });
        test("BAD.", "PIECE 1 of a PLAIN one", x -> {
            x.book(0, "abc");
            x.book(0);
            due("tell(0, 1)", x.tell(0, 1), BAD);
            due("tell(1, 1)", x.tell(1, 1), BAD);
        });
        test("BAD.", "no such BOOK, and NONE", x -> {
            x.book(0, "abc");
            x.tell(0, 0);
            due("tell(1, 0)", x.tell(1, 0), BAD);
            due("tell(-1, 0)", x.tell(NONE, 0), BAD);
            outIs(x, "abc");
        });
        test("BAD.", "23 and 24 of 24 BOOKS", x -> {
            x.emptyBooks(23);
            x.book(0, "abc");
            due("tell(23, 0)", x.tell(23, 0), 3);
            due("tell(24, 0)", x.tell(24, 0), BAD);
        });
    }

    private void isOf() {
        promise(10);
        String kinds = "(RANKED ones are CUT, too; all are PLAIN.)";
        int[][] want = {{1, 0, 0}, {1, 1, 0}, {1, 1, 1}};
        for (int made = 0; made <= 2; made++) {
            int kind = made;
            test(kinds, "a BOOK of KIND " + kind, x -> {
                x.book(kind, "abc");
                for (int of = 0; of <= 2; of++) due("isOf(0, " + of + ")", x.isOf(0, of), want[kind][of]);
            });
        }
        test("Whether a BOOK is of a KIND: 1, 0.", "one of 0 bytes is PLAIN alone", x -> {
            x.book(0);
            for (int of = 0; of <= 2; of++) due("isOf(0, " + of + ")", x.isOf(0, of), want[0][of]);
        });
        test("Whether a BOOK is of a KIND: 1, 0.", "trained ones", x -> {
            x.samples("abcdef", "abcdef");
            for (int kind = 1; kind <= 2; kind++) {
                int book = x.train(kind, 1);
                for (int of = 0; of <= 2; of++) due("isOf", x.isOf(book, of), want[kind][of]);
            }
        });
        test("BAD.", "kinds -1 and 3", x -> {
            x.book(2, "abc");
            due("isOf(0, -1)", x.isOf(0, -1), BAD);
            due("isOf(0, 3)", x.isOf(0, 3), BAD);
        });
        test("BAD.", "the BOOK behind the last, and NONE", x -> {
            x.book(2, "abc");
            due("isOf(1, 0)", x.isOf(1, 0), BAD);
            due("isOf(-1, 0)", x.isOf(NONE, 0), BAD);
        });
        test("BAD.", "23 and 24 of 24 BOOKS", x -> {
            x.emptyBooks(24);
            due("isOf(23, 0)", x.isOf(23, 0), 1);
            due("isOf(24, 0)", x.isOf(24, 0), BAD);
        });
    }
}
