/** Promises 1 to 5: a new object, the tape, OUT. */
final class TapeEdges extends Edges {
    @Override
    void run() {
        newObject();
        feed();
        fullTape();
        trim();
        again();
        out();
    }

    private void newObject() {
        promise(1);
        String sentence = "No BOOKS, no SAMPLES, nothing on the wire.";
        test(sentence, "no BOOK", x -> {
            due("count(0)", x.count(0), 0);
            due("about(0, 0)", x.about(0, 0), BAD);
            due("tell(0, 0)", x.tell(0, 0), BAD);
            due("isOf(0, 0)", x.isOf(0, 0), BAD);
            due("pack(0)", x.pack(0), BAD);
            due("greedy(0)", x.greedy(0), BAD);
            due("price(0)", x.price(0), BAD);
            due("offer(0)", x.offer(0), BAD);
            due("send(0)", x.send(0), BAD);
            due("over(0)", x.over(0), BAD);
        });
        test(sentence, "no SAMPLE", x -> {
            due("count(1)", x.count(1), 0);
            due("price(NONE)", x.price(NONE), 0);
            due("train(1, 1)", x.train(1, 1), NONE);
            due("gained(0)", x.gained(0), NONE);
            due("forget()", x.forget(), 0);
        });
        test(sentence, "no MESSAGE, none HELD, no LETTER", x -> {
            for (int what = 5; what <= 10; what++) due("count(" + what + ")", x.count(what), 0);
            due("message(0, 0)", x.message(0, 0), BAD);
            due("deliver(0)", x.deliver(0), BAD);
            due("lose(0)", x.lose(0), BAD);
            due("twice(0)", x.twice(0), BAD);
            due("latest()", x.latest(), NONE);
        });
        test(sentence, "nothing packed, nothing read", x -> {
            due("bits()", x.bits(), NONE);
            due("part(0, 0)", x.part(0, 0), NONE);
            due("rest(0)", x.rest(0), NONE);
            due("fault()", x.fault(), 0);
        });
        test(sentence, "one object knows nothing of another", x -> {
            Post other = new Post();
            other.book(2, "abc");
            other.samples("abcdef", "abcdef");
            other.piece("xy");
            other.pack("abc", 0);
            other.offer(0);
            other.load("tape");
            for (int what = 0; what <= 10; what++) due("count(" + what + ")", x.count(what), 0);
            due("bits()", x.bits(), NONE);
            due("out(0)", x.out(0), NONE);
        });
        test("OUT has bytes, none at first.", "a new OUT", x -> {
            due("count(4)", x.count(4), 0);
            due("out(0)", x.out(0), NONE);
        });
        test("No BOOKS, no SAMPLES, nothing on the wire.", "a new tape has no bytes", x -> {
            due("count(3)", x.count(3), 0);
            due("trim(1)", x.trim(1), BAD);
            due("trim(0)", x.trim(0), 0);
        });
    }

    private void feed() {
        promise(2);
        String bytes = "Twenty bytes come behind the tape, the highest of each number first: how many it has.";
        test(bytes, "the order of the bytes", x -> {
            due("feed", x.feed(0x01020304, 0x05060708, 0x090a0b0c, 0x0d0e0f10, 0x11121314), 20);
            due("the tape", x.tape(), fresh(1, 20));
        });
        test(bytes, "the least and the greatest int, -1, 0", x -> {
            due("feed", x.feed(LOWEST, HIGHEST, -1, 0, LOWEST + 1), 20);
            due("the tape", x.tape(), "\u0080\0\0\0\u007f\u00ff\u00ff\u00ff\u00ff\u00ff\u00ff\u00ff\0\0\0\0\u0080\0\0\u0001");
        });
        test(bytes, "behind one byte", x -> {
            x.load("a");
            due("feed", x.feed(0x62636465, 0, 0, 0, 0x7a), 21);
            due("the tape", x.tape(), "abcde\0\0\0\0\0\0\0\0\0\0\0\0\0\0\0z");
        });
        test(bytes, "behind nothing, once the tape was used up", x -> {
            x.load(fresh(120));
            x.pack(NONE);
            due("feed", x.feed(0x61616161, 0x61616161, 0x61616161, 0x61616161, 0x61616161), 20);
            due("the tape", x.tape(), "a".repeat(20));
        });
        test("BYTES are 0 .. 255.", "0, 127, 128 and 255 come back as they are", x -> {
            x.feed(0x007f80ff, 0, 0, 0, 0);
            x.trim(4);
            due("the tape", x.tape(), "\0\u007f\u0080\u00ff");
        });
        test("BYTES are 0 .. 255.", "all of them, in BOOKS, letters and OUT", x -> {
            x.book(0, fresh(128));
            x.tell(0, 0);
            due("0 .. 127", x.out(), fresh(128));
            x.send(fresh(128, 120), NONE);
            x.deliver(0);
            x.latest();
            due("128 .. 247", x.out(), fresh(128, 120));
            x.load(fresh(248, 8));
            due("248 .. 255", x.tape(), fresh(248, 8));
        });
    }

    private void fullTape() {
        promise(2);
        String limit = "THE TAPE takes at most 240";
        test(limit, "twelve times twenty, not thirteen", x -> {
            for (int i = 1; i <= 12; i++) due("feed", x.feed(i, i, i, i, i), 20 * i);
            due("feed", x.feed(0, 0, 0, 0, 0), FULL);
            due("count(3)", x.count(3), 240);
        });
        test(limit, "220 and 20 are 240", x -> {
            x.load(fresh(220));
            due("feed", x.feed(1, 2, 3, 4, 5), 240);
        });
        test(limit, "221 and 20 are too many", x -> {
            x.load(fresh(221));
            due("feed", x.feed(1, 2, 3, 4, 5), FULL);
            due("count(3)", x.count(3), 221);
        });
        test(limit, "239 and 20 are too many", x -> {
            x.load(fresh(239));
            due("feed", x.feed(1, 2, 3, 4, 5), FULL);
            due("count(3)", x.count(3), 239);
        });
        test(limit, "a full tape that is cut to 220 takes 20 more", x -> {
            x.load(fresh(240));
            x.trim(220);
            due("feed", x.feed(1, 2, 3, 4, 5), 240);
        });
        test(limit, "a full tape that was used up takes 240 again", x -> {
            x.load(fresh(240));
            due("sample()", x.sample(), BAD);
            for (int i = 1; i <= 12; i++) due("feed", x.feed(i, i, i, i, i), 20 * i);
            due("feed", x.feed(0, 0, 0, 0, 0), FULL);
        });
        test("FULL.", "no byte of a refused feed() comes to the tape", x -> {
            x.load(fresh(230));
            due("feed", x.feed(-1, -1, -1, -1, -1), FULL);
            due("trim(200)", x.trim(200), 200);
            x.piece();
            x.book(0);
            x.tell(0, 0);
            outIs(x, fresh(200));
        });
    }

    private void trim() {
        promise(3);
        String keeps = "The tape keeps its first n bytes: n.";
        test(keeps, "0 of none", x -> due("trim(0)", x.trim(0), 0));
        test(keeps, "0 of some", x -> {
            x.load("abc");
            due("trim(0)", x.trim(0), 0);
            due("count(3)", x.count(3), 0);
        });
        test(keeps, "1 of some: the first", x -> {
            x.load("abc");
            due("trim(1)", x.trim(1), 1);
            due("the tape", x.tape(), "a");
        });
        test(keeps, "all but the last", x -> {
            x.load("abc");
            due("trim(2)", x.trim(2), 2);
            due("the tape", x.tape(), "ab");
        });
        test(keeps, "all of them", x -> {
            x.load("abc");
            due("trim(3)", x.trim(3), 3);
            due("the tape", x.tape(), "abc");
        });
        test(keeps, "240 of 240", x -> {
            x.load(fresh(240));
            due("trim(240)", x.trim(240), 240);
            due("count(3)", x.count(3), 240);
        });
        test(keeps, "what is cut off does not come back", x -> {
            x.load("abcdef");
            x.trim(2);
            due("trim(3)", x.trim(3), BAD);
            x.feed(0x78000000, 0, 0, 0, 0);
            x.trim(4);
            due("the tape", x.tape(), "abx\0");
        });
        test("BAD.", "1 of none", x -> due("trim(1)", x.trim(1), BAD));
        test("BAD.", "one more than there are", x -> {
            x.load("abc");
            due("trim(4)", x.trim(4), BAD);
            due("the tape", x.tape(), "abc");
        });
        test("BAD.", "241 of 240", x -> {
            x.load(fresh(240));
            due("trim(241)", x.trim(241), BAD);
            due("count(3)", x.count(3), 240);
        });
        test("BAD.", "-1", x -> {
            x.load("abc");
            due("trim(-1)", x.trim(-1), BAD);
            due("the tape", x.tape(), "abc");
        });
    }

    private void again() {
        promise(4);
        String becomes = "The tape becomes OUT: how many bytes.";
        test(becomes, "OUT has none, the tape had none", x -> {
            due("again()", x.again(), 0);
            due("count(3)", x.count(3), 0);
        });
        test(becomes, "OUT has none, the tape had some", x -> {
            x.load("abc");
            due("again()", x.again(), 0);
            due("count(3)", x.count(3), 0);
        });
        test(becomes, "not behind what the tape had", x -> {
            x.book(0, "xyz");
            x.tell(0, 0);
            x.load("abcdefgh");
            due("again()", x.again(), 3);
            due("count(3)", x.count(3), 3);
            due("the tape", x.tape(), "xyz");
        });
        test(becomes, "OUT stays", x -> {
            x.book(0, "xyz");
            x.tell(0, 0);
            x.again();
            outIs(x, "xyz");
            due("again()", x.again(), 3);
        });
        test(becomes, "one byte", x -> {
            x.book(0, "x");
            x.tell(0, 0);
            due("again()", x.again(), 1);
            due("the tape", x.tape(), "x");
        });
        test(becomes, "a full tape becomes a short one", x -> {
            x.book(0, "x");
            x.tell(0, 0);
            x.load(fresh(240));
            due("again()", x.again(), 1);
            due("count(3)", x.count(3), 1);
        });
        String full = "FULL: OUT has more than 240.";
        test(full, "it never has: a PIECE has 200 at most", x -> {
            x.book(0, fresh(200));
            x.tell(0, 0);
            due("again()", x.again(), 200);
            due("piece()", x.piece(), 1);
            x.book(0);
            due("tell(1, 0)", x.tell(1, 0), 200);
            outIs(x, fresh(200));
        });
        test(full, "it never has: a written letter has 125 at most", x -> {
            due("pack", x.pack(fresh(120), NONE), 975);
            due("again()", x.again(), 125);
            due("unpack()", x.unpack(), 120);
        });
    }

    private void out() {
        promise(5);
        String byteI = "Byte i of OUT; NONE.";
        test(byteI, "OUT has none", x -> {
            due("out(0)", x.out(0), NONE);
            due("out(-1)", x.out(-1), NONE);
            due("out(1)", x.out(1), NONE);
        });
        test(byteI, "one byte: 0, not 1, not -1", x -> {
            x.book(0, "x");
            x.tell(0, 0);
            due("out(0)", x.out(0), 'x');
            due("out(1)", x.out(1), NONE);
            due("out(-1)", x.out(-1), NONE);
        });
        test(byteI, "the first and the last of 200, none behind", x -> {
            x.book(0, fresh(7, 200));
            x.tell(0, 0);
            due("out(0)", x.out(0), 7);
            due("out(199)", x.out(199), 206);
            due("out(200)", x.out(200), NONE);
            due("out(-1)", x.out(-1), NONE);
        });
        test(byteI, "a byte of 255 is not NONE", x -> {
            x.book(0, "\u00ff\u00ff");
            x.tell(0, 0);
            due("out(0)", x.out(0), 255);
            due("out(1)", x.out(1), 255);
            due("out(2)", x.out(2), NONE);
        });
        test(byteI, "nothing of a longer OUT stays", x -> {
            x.book(0, "abcdef");
            x.book(0, "x");
            x.tell(0, 0);
            x.tell(1, 0);
            due("out(0)", x.out(0), 'x');
            due("out(1)", x.out(1), NONE);
            due("out(5)", x.out(5), NONE);
        });
    }
}
