/** REFUSED calls of all promises: what they change, which reason they tell; and what the tape goes through. */
final class RefusedEdges extends Edges {
    private static final String NOTHING = "REFUSED calls change nothing (but the tape):";
    private static final String ORDER = "Of several the first in this order.";
    private static final String USED = "calls that read it use it up, whatever they answer.";

    @Override
    void run() {
        refusedBooks();
        refusedLooks();
        refusedPacking();
        refusedTraining();
        refusedSending();
        refusedWire();
        order();
        orderOnTheWire();
        usedUp();
        notRead();
        reasons();
    }

    /**
     * Something of all there is: BOOK 0 is READY, 1 OFFERED, 2 OVER and GOING, 3 IDLE. Of the MESSAGES
     * LETTER 7 came, 6 is told lost, 5 and 8 are under way, 10 even 3 times; OFFER 0 and GONE 9 came.
     */
    private static void rich(Post x) {
        x.book(2, "abcd", "ef");
        x.book(1, "ghi", "jk");
        x.book(0, "lmnop");
        x.book(0);
        x.makeReady(0);
        x.makeReady(2);
        x.offer(1);
        x.send("abcdef", 0);
        x.send("lmn", 2);
        x.send("xyz", 0);
        x.send("lop", 2);
        x.over(2);
        x.deliver(9);
        x.deliver(7);
        x.lose(6);
        x.send("w", NONE);
        x.twice(10);
        x.twice(10);
        x.samples("abcd1", "2abcd", "abcd");
        x.unpack("00000 1 1");
        x.pack("abcdefxabc", 0);
        x.piece("uv");
        x.piece("wx");
        x.load("tape");
    }

    private static void richWith(Post x, String tape) {
        rich(x);
        x.trim(0);
        x.load(tape);
    }

    private void refusedBooks() {
        promise(2);
        changesNothing(NOTHING, "feed() FULL", FULL, x -> richWith(x, fresh(221)), x -> x.feed(1, 2, 3, 4, 5));
        promise(3);
        changesNothing(NOTHING, "trim() BAD, below", BAD, RefusedEdges::rich, x -> x.trim(-1));
        changesNothing(NOTHING, "trim() BAD, above", BAD, RefusedEdges::rich, x -> x.trim(5));
        promise(5);
        changesNothing(NOTHING, "out() NONE", NONE, RefusedEdges::rich, x -> x.out(200));
        promise(6);
        changesTapeAlone(NOTHING, "piece() BAD, no bytes", BAD, x -> richWith(x, ""), x -> x.piece());
        changesTapeAlone(NOTHING, "piece() BAD, 201 bytes", BAD, x -> richWith(x, fresh(201)), x -> x.piece());
        changesTapeAlone(NOTHING, "piece() FULL", FULL, x -> {
            rich(x);
            x.trim(0);
            for (int i = 3; i <= 20; i++) x.piece("yz");
            x.load("tape");
        }, x -> x.piece());
        promise(7);
        changesNothing(NOTHING, "book() BAD, kind", BAD, RefusedEdges::rich, x -> x.book(3));
        changesNothing(NOTHING, "book() BAD, PIECES", BAD, RefusedEdges::rich, x -> x.book(0));
        changesNothing(NOTHING, "book() BAD, no PIECES", BAD, x -> x.load("tape"), x -> x.book(1));
        changesNothing(NOTHING, "book() FULL", FULL, x -> {
            x.emptyBooks(24);
            x.piece("ab");
            x.load("tape");
        }, x -> x.book(1));
        changesNothing(NOTHING, "book() FULL, no PIECES", FULL, x -> x.emptyBooks(24), x -> x.book(0));
    }

    private void refusedLooks() {
        promise(8);
        changesNothing(NOTHING, "about() BAD, book", BAD, RefusedEdges::rich, x -> x.about(4, 0));
        changesNothing(NOTHING, "about() BAD, what", BAD, RefusedEdges::rich, x -> x.about(0, 6));
        promise(9);
        changesNothing(NOTHING, "tell() BAD, book", BAD, RefusedEdges::rich, x -> x.tell(4, 0));
        changesNothing(NOTHING, "tell() BAD, k", BAD, RefusedEdges::rich, x -> x.tell(0, 2));
        promise(10);
        changesNothing(NOTHING, "isOf() BAD, book", BAD, RefusedEdges::rich, x -> x.isOf(4, 0));
        changesNothing(NOTHING, "isOf() BAD, kind", BAD, RefusedEdges::rich, x -> x.isOf(0, 3));
        promise(29);
        changesNothing(NOTHING, "message() BAD, message", BAD, RefusedEdges::rich, x -> x.message(11, 0));
        changesNothing(NOTHING, "message() BAD, what", BAD, RefusedEdges::rich, x -> x.message(0, 5));
        promise(30);
        changesNothing(NOTHING, "latest() NONE", NONE, x -> {
            x.book(0, "abc");
            x.tell(0, 0);
            x.send("xyz", NONE);
            x.load("tape");
        }, x -> x.latest());
        promise(31);
        changesNothing(NOTHING, "count() BAD", BAD, RefusedEdges::rich, x -> x.count(11));
    }

    private void refusedPacking() {
        promise(11);
        changesTapeAlone(NOTHING, "pack() BAD, book", BAD, RefusedEdges::rich, x -> x.pack(4));
        changesTapeAlone(NOTHING, "pack() BAD, letter", BAD, x -> richWith(x, fresh(121)), x -> x.pack(0));
        promise(12);
        changesTapeAlone(NOTHING, "greedy() BAD, book", BAD, RefusedEdges::rich, x -> x.greedy(4));
        changesTapeAlone(NOTHING, "greedy() BAD, letter", BAD, x -> richWith(x, fresh(121)), x -> x.greedy(0));
        changesTapeAlone("(OUT and THE PARTS stay.)", "greedy() that is not refused changes nothing else", 47,
                x -> richWith(x, "abcdxyz1"), x -> x.greedy(0));
        promise(13);
        changesNothing(NOTHING, "bits() NONE", NONE, x -> x.load("tape"), x -> x.bits());
        promise(14);
        changesNothing(NOTHING, "part() NONE", NONE, RefusedEdges::rich, x -> x.part(9, 0));
        changesNothing(NOTHING, "part() BAD, i", BAD, RefusedEdges::rich, x -> x.part(-1, 0));
        changesNothing(NOTHING, "part() BAD, what", BAD, RefusedEdges::rich, x -> x.part(0, 3));
        promise(15);
        changesNothing(NOTHING, "rest() BAD, above 120", BAD, RefusedEdges::rich, x -> x.rest(121));
        changesNothing(NOTHING, "rest() BAD, above the size", BAD, RefusedEdges::rich, x -> x.rest(11));
        changesNothing(NOTHING, "rest() NONE", NONE, x -> x.load("tape"), x -> x.rest(0));
        promise(16);
        changesTapeAlone("-100 less the place of its FAULT (OUT stays).", "a FAULT changes nothing but fault(), which was 6 here, too",
                -106, x -> richWith(x, "\u0005"), x -> x.unpack());
    }

    private void refusedTraining() {
        promise(18);
        changesTapeAlone(NOTHING, "sample() BAD, no bytes", BAD, x -> richWith(x, ""), x -> x.sample());
        changesTapeAlone(NOTHING, "sample() BAD, 41 bytes", BAD, x -> richWith(x, fresh(41)), x -> x.sample());
        changesTapeAlone(NOTHING, "sample() FULL", FULL, x -> {
            rich(x);
            x.trim(0);
            for (int i = 4; i <= 8; i++) x.sample("abc" + i);
            x.load("tape");
        }, x -> x.sample());
        promise(20);
        changesNothing(NOTHING, "train() BAD, kind", BAD, RefusedEdges::rich, x -> x.train(0, 1));
        changesNothing(NOTHING, "train() BAD, pieces", BAD, RefusedEdges::rich, x -> x.train(2, 7));
        changesNothing(NOTHING, "train() FULL", FULL, x -> {
            rich(x);
            x.train(2, 1);
            x.sample();
            x.samples("xyz1xyz", "2xyz3xyz");
            x.book(1);
            x.emptyBooks(18);
            x.load("tape");
        }, x -> x.train(1, 6));
        changesNothing(NOTHING, "train() NONE", NONE, x -> {
            rich(x);
            x.train(2, 1);
            x.forget();
        }, x -> x.train(1, 6));
        changesNothing(NOTHING, "train() NONE, with CANDIDATES that do not gain", NONE, x -> {
            rich(x);
            x.train(2, 1);
            x.forget();
            x.trim(0);
            x.samples("1234xyz5678", "abcdxyzefgh");
            x.load("tape");
        }, x -> x.train(1, 6));
        promise(21);
        changesNothing(NOTHING, "gained() NONE", NONE, RefusedEdges::rich, x -> x.gained(0));
        changesNothing(NOTHING, "gained() BAD", BAD, RefusedEdges::rich, x -> x.gained(-1));
        promise(22);
        changesNothing(NOTHING, "price() BAD", BAD, RefusedEdges::rich, x -> x.price(4));
    }

    /** As many MESSAGES as there may be: BOOK 0 is READY, 1 OVER, 2 OFFERED, 3 IDLE. */
    private static void full(Post x) {
        x.emptyBooks(4);
        x.makeReady(0);
        x.makeReady(1);
        x.over(1);
        x.offer(2);
        x.fillWire(200);
        x.load("tape");
    }

    private void refusedSending() {
        promise(23);
        changesNothing(NOTHING, "offer() BAD", BAD, RefusedEdges::rich, x -> x.offer(4));
        changesNothing(NOTHING, "offer() NO, READY", NO, RefusedEdges::rich, x -> x.offer(0));
        changesNothing(NOTHING, "offer() NO, OVER", NO, RefusedEdges::rich, x -> x.offer(2));
        changesNothing(NOTHING, "offer() FULL, IDLE", FULL, RefusedEdges::full, x -> x.offer(3));
        changesNothing(NOTHING, "offer() FULL, OFFERED", FULL, RefusedEdges::full, x -> x.offer(2));
        promise(24);
        changesTapeAlone(NOTHING, "send() BAD, book", BAD, RefusedEdges::rich, x -> x.send(4));
        changesTapeAlone(NOTHING, "send() BAD, letter", BAD, x -> richWith(x, fresh(121)), x -> x.send(0));
        changesTapeAlone(NOTHING, "send() NO, OFFERED", NO, RefusedEdges::rich, x -> x.send(1));
        changesTapeAlone(NOTHING, "send() NO, OVER", NO, RefusedEdges::rich, x -> x.send(2));
        changesTapeAlone(NOTHING, "send() NO, IDLE", NO, RefusedEdges::rich, x -> x.send(3));
        changesTapeAlone(NOTHING, "send() FULL, READY", FULL, RefusedEdges::full, x -> x.send(0));
        changesTapeAlone(NOTHING, "send() FULL, NONE", FULL, RefusedEdges::full, x -> x.send(NONE));
        promise(25);
        changesNothing(NOTHING, "over() BAD", BAD, RefusedEdges::rich, x -> x.over(4));
        changesNothing(NOTHING, "over() NO, OFFERED", NO, RefusedEdges::rich, x -> x.over(1));
        changesNothing(NOTHING, "over() NO, OVER", NO, RefusedEdges::rich, x -> x.over(2));
        changesNothing(NOTHING, "over() NO, IDLE", NO, RefusedEdges::rich, x -> x.over(3));
        changesNothing(NOTHING, "over() FULL", FULL, RefusedEdges::full, x -> x.over(0));
    }

    private void refusedWire() {
        promise(26);
        changesNothing(NOTHING, "deliver() BAD", BAD, RefusedEdges::rich, x -> x.deliver(11));
        changesNothing(NOTHING, "deliver() NO, an OFFER that came", NO, RefusedEdges::rich, x -> x.deliver(0));
        changesNothing(NOTHING, "deliver() NO, a LETTER that came", NO, RefusedEdges::rich, x -> x.deliver(7));
        changesNothing(NOTHING, "deliver() NO, a LETTER told lost", NO, RefusedEdges::rich, x -> x.deliver(6));
        promise(27);
        changesNothing(NOTHING, "lose() BAD", BAD, RefusedEdges::rich, x -> x.lose(11));
        changesNothing(NOTHING, "lose() NO, a LETTER that came", NO, RefusedEdges::rich, x -> x.lose(7));
        changesNothing(NOTHING, "lose() NO, a LETTER told lost", NO, RefusedEdges::rich, x -> x.lose(6));
        promise(28);
        changesNothing(NOTHING, "twice() BAD", BAD, RefusedEdges::rich, x -> x.twice(11));
        changesNothing(NOTHING, "twice() NO", NO, RefusedEdges::rich, x -> x.twice(10));
    }

    private void order() {
        promise(6);
        test(ORDER, "piece(): BAD ahead of FULL", x -> {
            for (int i = 0; i < 20; i++) x.piece("ab");
            due("no bytes", x.piece(), BAD);
            due("201 bytes", x.piece(fresh(201)), BAD);
            due("1 byte", x.piece("a"), FULL);
        });
        promise(7);
        test(ORDER, "book(): BAD ahead of FULL", x -> {
            x.emptyBooks(24);
            due("kind", x.book(3), BAD);
            due("no PIECES", x.book(1), BAD);
            x.piece("a");
            due("a PIECE of 1 byte", x.book(2), BAD);
            x.piece("b");
            due("two PIECES", x.book(0), BAD);
            due("count(2)", x.count(2), 2);
        });
        promise(18);
        test(ORDER, "sample(): BAD ahead of FULL", x -> {
            for (int i = 0; i < 8; i++) x.sample("a");
            due("no bytes", x.sample(), BAD);
            due("41 bytes", x.sample(fresh(41)), BAD);
            due("40 bytes", x.sample(fresh(40)), FULL);
        });
        promise(20);
        test(ORDER, "train(): BAD ahead of FULL, FULL ahead of NONE", x -> {
            due("kind, and without any PIECE", x.train(0, 1), BAD);
            due("pieces, and without any PIECE", x.train(1, 0), BAD);
            x.emptyBooks(24);
            due("kind", x.train(3, 1), BAD);
            due("pieces", x.train(1, 7), BAD);
            due("without any PIECE", x.train(1, 1), FULL);
        });
        promise(14);
        test(ORDER, "part(): BAD ahead of NONE", x -> {
            due("nothing packed, what", x.part(0, 3), BAD);
            due("nothing packed, i", x.part(-1, 0), BAD);
            x.pack("a", NONE);
            due("not so many, what", x.part(1, -1), BAD);
            due("i and what", x.part(-1, 3), BAD);
        });
        promise(15);
        test(ORDER, "rest(): BAD ahead of NONE", x -> {
            due("nothing packed, below", x.rest(-1), BAD);
            due("nothing packed, above", x.rest(121), BAD);
        });
        promise(21);
        test(ORDER, "gained(): BAD ahead of NONE", x -> due("no TRAINING", x.gained(-1), BAD));
        promise(11);
        test(ORDER, "pack(): book and letter are both BAD", x -> due("pack", x.pack(fresh(121), 5), BAD));
        promise(8);
        test(ORDER, "about(): book and what are both BAD", x -> due("about", x.about(5, 6), BAD));
        promise(9);
        test(ORDER, "tell(): book and k are both BAD", x -> due("tell", x.tell(5, 5), BAD));
        promise(10);
        test(ORDER, "isOf(): book and kind are both BAD", x -> due("isOf", x.isOf(5, 3), BAD));
        promise(29);
        test(ORDER, "message(): message and what are both BAD", x -> due("message", x.message(5, 5), BAD));
    }

    private void orderOnTheWire() {
        promise(23);
        test(ORDER, "offer(): BAD ahead of FULL, NO ahead of FULL", x -> {
            full(x);
            due("no such BOOK", x.offer(4), BAD);
            due("NONE", x.offer(NONE), BAD);
            due("READY", x.offer(0), NO);
            due("OVER", x.offer(1), NO);
            due("OFFERED", x.offer(2), FULL);
            due("IDLE", x.offer(3), FULL);
        });
        promise(24);
        test(ORDER, "send(): BAD ahead of NO", x -> {
            x.emptyBooks(1);
            due("a letter of 121 with an IDLE one", x.send(fresh(121), 0), BAD);
            x.offer(0);
            due("a letter of 121 with an OFFERED one", x.send(fresh(121), 0), BAD);
            x.deliver(0);
            x.deliver(1);
            due("a letter of 121 with a READY one", x.send(fresh(121), 0), BAD);
            x.over(0);
            due("a letter of 121 with an OVER one", x.send(fresh(121), 0), BAD);
        });
        test(ORDER, "send(): BAD ahead of FULL, NO ahead of FULL", x -> {
            full(x);
            x.trim(0);
            due("no such BOOK", x.send("a", 4), BAD);
            due("a letter of 121 with NONE", x.send(fresh(121), NONE), BAD);
            due("a letter of 121 with a READY one", x.send(fresh(121), 0), BAD);
            due("a letter of 121 with an IDLE one", x.send(fresh(121), 3), BAD);
            due("OVER", x.send("a", 1), NO);
            due("OFFERED", x.send("a", 2), NO);
            due("IDLE", x.send("a", 3), NO);
            due("READY", x.send("a", 0), FULL);
            due("NONE", x.send("a", NONE), FULL);
        });
        promise(25);
        test(ORDER, "over(): BAD ahead of FULL, NO ahead of FULL", x -> {
            full(x);
            due("no such BOOK", x.over(4), BAD);
            due("NONE", x.over(NONE), BAD);
            due("OVER", x.over(1), NO);
            due("OFFERED", x.over(2), NO);
            due("IDLE", x.over(3), NO);
            due("READY", x.over(0), FULL);
        });
    }

    /** A call with a tape of these bytes answers so, and leaves no byte. */
    private void uses(String edge, String tape, int answer, Body setUp, Call call) {
        test(USED, edge, x -> {
            setUp.on(x);
            x.load(tape);
            due("the call", call.on(x), answer);
            due("count(3)", x.count(3), 0);
            due("trim(1)", x.trim(1), BAD);
        });
    }

    private void usedUp() {
        Body nothing = x -> { };
        promise(6);
        uses("piece()", "ab", 1, nothing, x -> x.piece());
        uses("piece() BAD", fresh(201), BAD, nothing, x -> x.piece());
        uses("piece() FULL", "ab", FULL, x -> {
            for (int i = 0; i < 20; i++) x.piece("ab");
        }, x -> x.piece());
        promise(11);
        uses("pack()", "ab", 21, nothing, x -> x.pack(NONE));
        uses("pack() BAD, book", "ab", BAD, nothing, x -> x.pack(0));
        uses("pack() BAD, letter", fresh(121), BAD, nothing, x -> x.pack(NONE));
        promise(12);
        uses("greedy()", "ab", 22, nothing, x -> x.greedy(NONE));
        uses("greedy() BAD, book", "ab", BAD, nothing, x -> x.greedy(-2));
        uses("greedy() BAD, letter", fresh(240), BAD, nothing, x -> x.greedy(NONE));
        promise(16);
        uses("unpack()", "\u0004", 0, nothing, x -> x.unpack());
        uses("unpack(), a FAULT in the first bits", "\u00ff".repeat(240), -100, nothing, x -> x.unpack());
        uses("unpack(), a FAULT behind the letter", "\u0004\0\0", -106, nothing, x -> x.unpack());
        promise(18);
        uses("sample()", "ab", 1, nothing, x -> x.sample());
        uses("sample() BAD", fresh(41), BAD, nothing, x -> x.sample());
        uses("sample() FULL", "ab", FULL, x -> {
            for (int i = 0; i < 8; i++) x.sample("ab");
        }, x -> x.sample());
        promise(24);
        uses("send()", "ab", 1, nothing, x -> x.send(NONE));
        uses("send() BAD, book", "ab", BAD, nothing, x -> x.send(0));
        uses("send() BAD, letter", fresh(121), BAD, nothing, x -> x.send(NONE));
        uses("send() NO", "ab", NO, x -> x.emptyBooks(1), x -> x.send(0));
        uses("send() FULL", "ab", FULL, x -> x.fillWire(200), x -> x.send(NONE));
    }

    /** A call that is no reader leaves all bytes. */
    private void leaves(int number, String edge, int answer, Call call) {
        promise(number);
        test(USED, edge + " does not read it", x -> {
            rich(x);
            due("the call", call.on(x), answer);
            due("count(3)", x.count(3), 4);
            due("the tape", x.tape(), "tape");
        });
    }

    private void notRead() {
        leaves(5, "out()", 8, x -> x.out(0));
        leaves(7, "book()", 4, x -> x.book(1));
        leaves(8, "about()", 2, x -> x.about(0, 0));
        leaves(9, "tell()", 4, x -> x.tell(0, 0));
        leaves(10, "isOf()", 1, x -> x.isOf(0, 2));
        leaves(13, "bits()", 5 + 7 + 22 + 3, x -> x.bits());
        leaves(14, "part()", WHOLE, x -> x.part(0, 0));
        leaves(15, "rest()", 0, x -> x.rest(10));
        leaves(17, "fault()", 6, x -> x.fault());
        leaves(19, "forget()", 3, x -> x.forget());
        leaves(20, "train()", 4, x -> x.train(2, 1));
        leaves(21, "gained()", NONE, x -> x.gained(0));
        leaves(22, "price()", 14 + 14 + 3, x -> x.price(0));
        leaves(23, "offer()", 12, x -> x.offer(3));
        leaves(25, "over()", 12, x -> x.over(0));
        leaves(26, "deliver()", 0, x -> x.deliver(4));
        leaves(27, "lose()", 2, x -> x.lose(10));
        leaves(28, "twice()", 1, x -> x.twice(0));
        leaves(29, "message()", 3, x -> x.message(10, 0));
        leaves(30, "latest()", 3, x -> x.latest());
        leaves(31, "count()", 4, x -> x.count(0));
    }

    private void reasons() {
        promise(31);
        test("BAD: a number is not as told, or there is no such thing; NO: not now; FULL: no room; NONE: there is none.",
                "they are four different numbers, as the interface tells them", x -> {
            due("BAD", ShortPost.BAD, -3);
            due("NO", ShortPost.NO, -4);
            due("FULL", ShortPost.FULL, -5);
            due("NONE", ShortPost.NONE, -1);
        });
    }
}
