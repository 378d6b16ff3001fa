/** Promises 23 to 25: what THE SENDER does. */
final class SendEdges extends Edges {
    private static final String NUMBERED = "THE WIRE has MESSAGES, numbered from 0 in the order in which they are sent "
            + "(200 at most in all), each under way 0, 1, 2, .. times.";

    @Override
    void run() {
        offer();
        send();
        letters();
        over();
    }

    private void offer() {
        promise(23);
        String does = "offer(b): an IDLE or OFFERED one is OFFERED, OFFER b is sent.";
        test("offer: how many MESSAGES were sent in all.", "the first, the second, the third", x -> {
            x.emptyBooks(2);
            due("offer(0)", x.offer(0), 1);
            due("offer(1)", x.offer(1), 2);
            x.send(NONE);
            due("offer(0)", x.offer(0), 4);
        });
        test(does, "IDLE", x -> {
            x.emptyBooks(2);
            x.offer(1);
            due("it is", x.about(1, 3), OFFERED);
            due("the other is", x.about(0, 3), IDLE);
            due("its sort", x.message(0, 0), 0);
            due("its BOOK", x.message(0, 1), 1);
            due("under way", x.message(0, 2), 1);
            due("not HELD yet", x.about(1, 4), 0);
        });
        test(does, "OFFERED, again and again", x -> {
            x.emptyBooks(1);
            for (int i = 1; i <= 5; i++) due("offer(0)", x.offer(0), i);
            due("it is", x.about(0, 3), OFFERED);
            due("count(6)", x.count(6), 5);
        });
        test(does, "IDLE once more, as NO came", x -> {
            x.emptyBooks(5);
            for (int i = 0; i < 4; i++) x.makeReady(i);
            x.makeReady(4);
            due("it is", x.about(4, 3), IDLE);
            due("offer(4)", x.offer(4), 11);
            due("it is", x.about(4, 3), OFFERED);
        });
        test("BAD; NO: it is READY or OVER", "-1, NONE, and the BOOK behind the last", x -> {
            x.emptyBooks(2);
            due("offer(-1)", x.offer(NONE), BAD);
            due("offer(2)", x.offer(2), BAD);
            due("count(5)", x.count(5), 0);
        });
        test("BAD; NO: it is READY or OVER", "23 and 24 of 24 BOOKS", x -> {
            x.emptyBooks(24);
            due("offer(24)", x.offer(24), BAD);
            due("offer(23)", x.offer(23), 1);
        });
        test("BAD; NO: it is READY or OVER", "READY", x -> {
            x.emptyBooks(1);
            x.makeReady(0);
            due("offer(0)", x.offer(0), NO);
            due("it is", x.about(0, 3), READY);
            due("count(5)", x.count(5), 2);
        });
        test("BAD; NO: it is READY or OVER", "OVER, HELD and HELD no more", x -> {
            x.emptyBooks(1);
            x.makeReady(0);
            x.over(0);
            due("offer(0)", x.offer(0), NO);
            x.deliver(2);
            due("offer(0)", x.offer(0), NO);
            due("it is", x.about(0, 3), OVER);
            due("count(5)", x.count(5), 3);
        });
        test("FULL: 200 were sent.", "the last MESSAGE, and one more", x -> {
            x.emptyBooks(1);
            x.fillWire(199);
            due("offer(0)", x.offer(0), 200);
            due("offer(0)", x.offer(0), FULL);
            due("count(5)", x.count(5), 200);
        });
        test("FULL: 200 were sent.", "an IDLE one stays IDLE", x -> {
            x.emptyBooks(1);
            x.fillWire(200);
            due("offer(0)", x.offer(0), FULL);
            due("it is", x.about(0, 3), IDLE);
        });
        test(NUMBERED, "0 to 199, no 200", x -> {
            x.emptyBooks(1);
            for (int i = 0; i < 200; i++) x.offer(0);
            due("message(0, 0)", x.message(0, 0), 0);
            due("message(199, 0)", x.message(199, 0), 0);
            due("message(200, 0)", x.message(200, 0), BAD);
            due("message(199, 2)", x.message(199, 2), 1);
        });
    }

    private void send() {
        promise(24);
        String sends = "send, of the tape as a letter: how many MESSAGES were sent in all.";
        String does = "send(b): with a READY one (or NONE) a LETTER is sent, LEAST.";
        test(sends, "the first and the second", x -> {
            due("send", x.send("a", NONE), 1);
            due("send", x.send("b", NONE), 2);
            due("count(3)", x.count(3), 0);
        });
        test(does, "with NONE, which is never offered", x -> {
            due("send", x.send("abc", NONE), 1);
            due("its sort", x.message(0, 0), 3);
            due("its BOOK", x.message(0, 1), NONE);
            due("under way", x.message(0, 2), 1);
            due("its fate", x.message(0, 4), 0);
        });
        test(does, "with a READY one", x -> {
            x.book(0, "abc");
            x.makeReady(0);
            due("send", x.send("abc", 0), 3);
            due("its BOOK", x.message(2, 1), 0);
            due("LETTERS", x.about(0, 5), 1);
        });
        test(does, "no bytes", x -> {
            due("send", x.send(NONE), 1);
            x.deliver(0);
            due("latest()", x.latest(), 0);
        });
        test(does, "120 bytes", x -> {
            due("send", x.send(fresh(120), NONE), 1);
            x.deliver(0);
            due("latest()", x.latest(), 120);
            outIs(x, fresh(120));
        });
        test(does, "OUT, THE PARTS and bits() stay", x -> {
            x.pack("zz", NONE);
            x.send("abc", NONE);
            partsAre(x, own(2));
            bitsAre(x, "00000 011 00 010 01111010 01111010");
        });
        String bad = "BAD: book, letter";
        test(bad, "121 bytes", x -> {
            due("send", x.send(fresh(121), NONE), BAD);
            due("count(3)", x.count(3), 0);
            due("count(5)", x.count(5), 0);
        });
        test(bad, "240 bytes", x -> due("send", x.send(fresh(240), NONE), BAD));
        test(bad, "-2, and the BOOK behind the last", x -> {
            x.emptyBooks(1);
            due("send", x.send("abc", -2), BAD);
            due("send", x.send("abc", 1), BAD);
            due("count(3)", x.count(3), 0);
            due("count(5)", x.count(5), 0);
        });
        String no = "NO: the BOOK is not READY";
        test(no, "IDLE", x -> {
            x.emptyBooks(1);
            due("send", x.send("abc", 0), NO);
            due("count(3)", x.count(3), 0);
            due("LETTERS", x.about(0, 5), 0);
        });
        test(no, "OFFERED, and HELD already", x -> {
            x.emptyBooks(1);
            x.offer(0);
            due("send", x.send("abc", 0), NO);
            x.deliver(0);
            due("send", x.send("abc", 0), NO);
            x.deliver(1);
            due("send", x.send("abc", 0), 3);
        });
        test(no, "OVER, and HELD still", x -> {
            x.emptyBooks(1);
            x.makeReady(0);
            x.over(0);
            due("send", x.send("abc", 0), NO);
            due("LETTERS", x.about(0, 5), 0);
        });
        test(no, "NONE is always READY", x -> {
            x.emptyBooks(1);
            x.makeReady(0);
            x.over(0);
            due("send", x.send("abc", NONE), 4);
        });
        test("FULL.", "the last MESSAGE, and one more", x -> {
            x.fillWire(199);
            due("send", x.send("abc", NONE), 200);
            due("send", x.send("abc", NONE), FULL);
            due("count(3)", x.count(3), 0);
            due("count(5)", x.count(5), 200);
        });
    }

    private void letters() {
        promise(24);
        String count = "LETTER (a BOOK b or NONE, as written, the COUNT of LETTERS sent with that BOOK ahead of it)";
        test(count, "0, 1 and 2, of each BOOK and of NONE", x -> {
            x.emptyBooks(2);
            x.makeReady(0);
            x.makeReady(1);
            int[] with = {0, 1, NONE, 0, NONE, 0};
            int[] counts = {0, 0, 0, 1, 1, 2};
            for (int i = 0; i < with.length; i++) {
                x.send(with[i]);
                due("COUNT", x.message(4 + i, 3), counts[i]);
            }
        });
        test(count, "199 of NONE", x -> {
            x.fillWire(200);
            due("COUNT", x.message(199, 3), 199);
        });
        test(count, "refused ones do not count", x -> {
            x.emptyBooks(1);
            x.send("a", 0);
            x.makeReady(0);
            x.send(fresh(121), 0);
            x.send(fresh(121), NONE);
            x.send("a", 0);
            x.send("a", NONE);
            due("COUNT", x.message(2, 3), 0);
            due("COUNT", x.message(3, 3), 0);
        });
        test(count, "lost ones, and those that came, do count", x -> {
            x.send(NONE);
            x.lose(0);
            x.send(NONE);
            x.deliver(1);
            x.send(NONE);
            due("COUNT", x.message(2, 3), 2);
        });
    }

    private void over() {
        promise(25);
        String does = "over(b): a READY one is OVER, GONE b is sent.";
        test("over: likewise.", "how many MESSAGES were sent in all", x -> {
            x.emptyBooks(1);
            x.makeReady(0);
            due("over(0)", x.over(0), 3);
        });
        test(does, "GONE, and what it tells", x -> {
            x.emptyBooks(2);
            x.makeReady(0);
            x.makeReady(1);
            x.over(1);
            due("it is", x.about(1, 3), OVER);
            due("the other is", x.about(0, 3), READY);
            due("its sort", x.message(4, 0), 4);
            due("its BOOK", x.message(4, 1), 1);
            due("under way", x.message(4, 2), 1);
            due("HELD still", x.about(1, 4), 1);
        });
        test("GONE b (with how many LETTERS were sent with it).", "none, and two", x -> {
            x.emptyBooks(2);
            x.makeReady(0);
            x.makeReady(1);
            x.over(0);
            x.send(1);
            x.send(NONE);
            x.send(1);
            x.over(1);
            due("none", x.message(4, 3), 0);
            due("two", x.message(8, 3), 2);
        });
        test("GONE b (with how many LETTERS were sent with it).", "197, all that there is room for", x -> {
            x.emptyBooks(1);
            x.makeReady(0);
            for (int i = 0; i < 197; i++) x.send(0);
            due("over(0)", x.over(0), 200);
            due("how many", x.message(199, 3), 197);
        });
        test("BAD; NO: it is not READY", "-1, NONE, and the BOOK behind the last", x -> {
            x.emptyBooks(1);
            due("over(-1)", x.over(NONE), BAD);
            due("over(1)", x.over(1), BAD);
        });
        test("BAD; NO: it is not READY", "23 and 24 of 24 BOOKS", x -> {
            x.emptyBooks(24);
            due("over(23)", x.over(23), NO);
            due("over(24)", x.over(24), BAD);
        });
        test("BAD; NO: it is not READY", "IDLE", x -> {
            x.emptyBooks(1);
            due("over(0)", x.over(0), NO);
            due("it is", x.about(0, 3), IDLE);
        });
        test("BAD; NO: it is not READY", "OFFERED, and HELD already", x -> {
            x.emptyBooks(1);
            x.offer(0);
            due("over(0)", x.over(0), NO);
            x.deliver(0);
            due("over(0)", x.over(0), NO);
            due("it is", x.about(0, 3), OFFERED);
            due("count(5)", x.count(5), 2);
        });
        test("BAD; NO: it is not READY", "OVER", x -> {
            x.emptyBooks(1);
            x.makeReady(0);
            x.over(0);
            due("over(0)", x.over(0), NO);
            due("count(5)", x.count(5), 3);
        });
        test("FULL.", "the last MESSAGE, and one more", x -> {
            x.emptyBooks(2);
            x.makeReady(0);
            x.makeReady(1);
            x.fillWire(199);
            due("over(0)", x.over(0), 200);
            due("over(1)", x.over(1), FULL);
            due("it is", x.about(1, 3), READY);
        });
    }
}
