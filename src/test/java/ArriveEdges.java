/** Promises 26 to 28: MESSAGES that come, that are lost, that come twice. */
final class ArriveEdges extends Edges {
    private static final String DELIVERED = "A MESSAGE that is delivered is under way once less.";
    private static final String HOLDS = "THE RECEIVER HOLDS some, 4 at most.";
    private static final String OFFER = "To THE RECEIVER come OFFER b: if it HOLDS b, YES b is sent; if it HOLDS less than 4, it HOLDS b "
            + "from then on, and YES b is sent; else NO b.";
    private static final String LETTER = "LETTER: if it came ahead, or was told lost, it is TWICE; else it comes: if it is "
            + "with a BOOK that is not HELD it is MISSING; else it is read, and is the latest that came.";
    private static final String GONE = "GONE b: b is GOING from then on, till an OFFER by which it comes to be HELD "
            + "(not having been).";
    private static final String GOING = "What is GOING and HELD is HELD no more as soon as so many LETTERS sent with it came, "
            + "or were told lost, as the GONE told (at once, too).";
    private static final String YES = "To THE SENDER come YES b: an OFFERED one is READY; for one that is OVER GONE b "
            + "is sent once more.";
    private static final String NO_TO = "NO b: an OFFERED one is IDLE.";
    private static final String LOST = "A MESSAGE that is lost is under way once less; if that is a LETTER that did not come, "
            + "and is not under way any more, it is told lost.";
    private static final String NOT_SENT = "1: a YES, NO or GONE that should be sent by that was not (200 were sent; the rest is done).";

    @Override
    void run() {
        deliver();
        offers();
        answers();
        letters();
        gone();
        going();
        withoutRoom();
        lose();
        twice();
    }

    private void deliver() {
        promise(26);
        test("A MESSAGE is delivered: 0", "one of each sort", x -> {
            x.emptyBooks(5);
            for (int i = 0; i < 5; i++) x.offer(i);
            for (int i = 0; i < 5; i++) due("OFFER", x.deliver(i), 0);
            due("YES", x.deliver(5), 0);
            due("NO", x.deliver(9), 0);
            x.send(0);
            due("LETTER", x.deliver(10), 0);
            x.over(0);
            due("GONE", x.deliver(11), 0);
        });
        test("BAD; NO: it is not under way.", "-1, and the MESSAGE behind the last", x -> {
            due("deliver(0)", x.deliver(0), BAD);
            x.send(NONE);
            due("deliver(-1)", x.deliver(-1), BAD);
            due("deliver(1)", x.deliver(1), BAD);
            due("under way", x.message(0, 2), 1);
        });
        test("BAD; NO: it is not under way.", "199 and 200 of 200", x -> {
            x.fillWire(200);
            due("deliver(200)", x.deliver(200), BAD);
            due("deliver(199)", x.deliver(199), 0);
        });
        test("BAD; NO: it is not under way.", "delivered, and lost", x -> {
            x.send(NONE);
            x.send(NONE);
            x.deliver(0);
            due("deliver(0)", x.deliver(0), NO);
            x.lose(1);
            due("deliver(1)", x.deliver(1), NO);
            due("came", x.count(8), 1);
            due("TWICE", x.count(9), 0);
        });
        test(DELIVERED, "from 3 to 0", x -> {
            x.send(NONE);
            x.twice(0);
            x.twice(0);
            for (int left = 2; left >= 0; left--) {
                due("deliver(0)", x.deliver(0), 0);
                due("under way", x.message(0, 2), left);
            }
            due("deliver(0)", x.deliver(0), NO);
        });
        test(DELIVERED, "no other MESSAGE is", x -> {
            x.send(NONE);
            x.send(NONE);
            x.deliver(1);
            due("the first", x.message(0, 2), 1);
            due("the second", x.message(1, 2), 0);
        });
    }

    private void offers() {
        promise(26);
        test(HOLDS, "the fourth is HELD, the fifth is not", x -> {
            x.emptyBooks(5);
            for (int i = 0; i < 5; i++) x.offer(i);
            for (int i = 0; i < 5; i++) {
                x.deliver(i);
                due("HELD", x.about(i, 4), i < 4 ? 1 : 0);
                due("YES or NO", x.message(5 + i, 0), i < 4 ? 1 : 2);
                due("its BOOK", x.message(5 + i, 1), i);
            }
            due("count(7)", x.count(7), 4);
        });
        test(HOLDS, "once one is HELD no more, the fifth is HELD", x -> {
            x.emptyBooks(5);
            for (int i = 0; i < 4; i++) x.makeReady(i);
            x.over(2);
            x.deliver(8);
            due("count(7)", x.count(7), 3);
            x.offer(4);
            x.deliver(9);
            due("HELD", x.about(4, 4), 1);
            due("YES", x.message(10, 0), 1);
            due("count(7)", x.count(7), 4);
        });
        test(HOLDS, "one that is GOING still takes its place", x -> {
            x.emptyBooks(5);
            for (int i = 0; i < 4; i++) x.makeReady(i);
            x.send(0);
            x.over(0);
            x.deliver(9);
            x.offer(4);
            x.deliver(10);
            due("NO", x.message(11, 0), 2);
            due("not HELD", x.about(4, 4), 0);
        });
        test(OFFER, "of one that is HELD, beside three others: YES", x -> {
            x.emptyBooks(4);
            for (int i = 0; i < 4; i++) x.offer(i);
            for (int i = 0; i < 4; i++) x.deliver(i);
            x.offer(3);
            x.deliver(8);
            due("YES", x.message(9, 0), 1);
            due("its BOOK", x.message(9, 1), 3);
            due("count(7)", x.count(7), 4);
        });
        test(OFFER, "the same one twice: it is HELD once, and two YES are sent", x -> {
            x.emptyBooks(1);
            x.offer(0);
            x.twice(0);
            x.deliver(0);
            x.deliver(0);
            due("count(7)", x.count(7), 1);
            due("count(5)", x.count(5), 3);
            due("YES", x.message(1, 0), 1);
            due("YES", x.message(2, 0), 1);
        });
        test(OFFER, "two of one BOOK", x -> {
            x.emptyBooks(1);
            x.offer(0);
            x.offer(0);
            x.deliver(1);
            due("HELD", x.about(0, 4), 1);
            x.deliver(0);
            due("count(5)", x.count(5), 4);
            due("count(7)", x.count(7), 1);
        });
    }

    private void answers() {
        promise(26);
        test(YES, "to an OFFERED one", x -> {
            x.emptyBooks(1);
            x.makeReady(0);
            due("it is", x.about(0, 3), READY);
            due("count(5)", x.count(5), 2);
        });
        test(YES, "to an IDLE one: nothing", x -> {
            ready4ThenNo(x);
            x.over(0);
            x.deliver(10);
            x.twice(8);
            x.deliver(8);
            due("HELD", x.about(4, 4), 1);
            x.deliver(11);
            due("it is", x.about(4, 3), IDLE);
            due("count(5)", x.count(5), 12);
        });
        test(YES, "to a READY one: nothing", x -> {
            x.emptyBooks(1);
            x.makeReady(0);
            x.twice(1);
            due("deliver(1)", x.deliver(1), 0);
            due("it is", x.about(0, 3), READY);
            due("count(5)", x.count(5), 2);
        });
        test(YES, "to one that is OVER: one more GONE for each YES", x -> {
            x.emptyBooks(1);
            x.makeReady(0);
            x.send(0);
            x.over(0);
            x.twice(1);
            x.twice(1);
            x.deliver(1);
            x.deliver(1);
            due("count(5)", x.count(5), 6);
            for (int message = 4; message <= 5; message++) {
                due("GONE", x.message(message, 0), 4);
                due("its BOOK", x.message(message, 1), 0);
                due("how many", x.message(message, 3), 1);
                due("under way", x.message(message, 2), 1);
            }
            due("it is", x.about(0, 3), OVER);
        });
        test(NO_TO, "to an OFFERED one", x -> {
            ready4ThenNo(x);
            due("it is", x.about(4, 3), IDLE);
            due("count(5)", x.count(5), 10);
        });
        test(NO_TO, "to one that is OFFERED again", x -> {
            ready4ThenNo(x);
            x.offer(4);
            x.twice(9);
            x.deliver(9);
            due("it is", x.about(4, 3), IDLE);
        });
        test(NO_TO, "to an IDLE one: nothing", x -> {
            ready4ThenNo(x);
            x.twice(9);
            due("deliver(9)", x.deliver(9), 0);
            due("it is", x.about(4, 3), IDLE);
            due("count(5)", x.count(5), 10);
        });
        test(NO_TO, "to a READY one, and to one that is OVER: nothing", x -> {
            ready4ThenNo(x);
            x.over(0);
            x.deliver(10);
            x.makeReady(4);
            x.twice(9);
            x.twice(9);
            x.deliver(9);
            due("it is", x.about(4, 3), READY);
            x.over(4);
            x.deliver(9);
            due("it is", x.about(4, 3), OVER);
            due("count(5)", x.count(5), 14);
        });
    }

    /** BOOKS 0 to 3 are READY; 4 was offered (MESSAGE 8), and its NO (9) came. */
    private static void ready4ThenNo(Post x) {
        x.emptyBooks(5);
        for (int i = 0; i < 5; i++) x.makeReady(i);
    }

    private void letters() {
        promise(26);
        test(LETTER, "the first time it comes, then it is TWICE each time", x -> {
            x.send("abc", NONE);
            x.twice(0);
            x.twice(0);
            x.deliver(0);
            due("came", x.count(8), 1);
            due("TWICE", x.count(9), 0);
            due("its fate", x.message(0, 4), 1);
            x.deliver(0);
            due("TWICE", x.count(9), 1);
            x.deliver(0);
            due("TWICE", x.count(9), 2);
            due("came", x.count(8), 1);
            due("its fate", x.message(0, 4), 1);
        });
        test(LETTER, "told lost, and delivered then: TWICE", x -> {
            x.send("abc", NONE);
            x.lose(0);
            x.twice(0);
            x.deliver(0);
            due("came", x.count(8), 0);
            due("TWICE", x.count(9), 1);
            due("its fate", x.message(0, 4), 2);
            due("latest()", x.latest(), NONE);
        });
        test(LETTER, "with a BOOK that is HELD it is read", x -> {
            x.book(2, "abc");
            x.makeReady(0);
            x.send("abcabc", 0);
            x.deliver(2);
            due("came", x.count(8), 1);
            due("MISSING", x.count(10), 0);
            due("latest()", x.latest(), 6);
            outIs(x, "abcabc");
        });
        test(LETTER, "OUT, THE PARTS, fault() and the tape stay as it comes", x -> {
            x.pack("zz", NONE);
            x.unpack("11111");
            x.send("abc", NONE);
            x.load("tape");
            x.deliver(0);
            partsAre(x, own(2));
            bitsAre(x, "00000 011 00 010 01111010 01111010");
            due("fault()", x.fault(), 2);
            due("the tape", x.tape(), "tape");
        });
        test(LETTER, "none is ever MISSING: a BOOK is HELD till its last LETTER came", x -> {
            x.book(2, "abc");
            x.makeReady(0);
            for (int i = 0; i < 3; i++) x.send("abc" + i, 0);
            x.over(0);
            x.deliver(5);
            for (int message = 4; message >= 2; message--) {
                due("HELD", x.about(0, 4), 1);
                x.deliver(message);
                x.latest();
                outIs(x, "abc" + (message - 2));
            }
            due("HELD no more", x.about(0, 4), 0);
            due("came", x.count(8), 3);
            due("MISSING", x.count(10), 0);
        });
        test(LETTER, "TWICE with a BOOK that is HELD no more is not MISSING", x -> {
            x.book(2, "abc");
            x.makeReady(0);
            x.send("abc", 0);
            x.twice(2);
            x.over(0);
            x.deliver(2);
            x.deliver(3);
            due("HELD no more", x.about(0, 4), 0);
            x.deliver(2);
            due("TWICE", x.count(9), 1);
            due("MISSING", x.count(10), 0);
        });
    }

    private void gone() {
        promise(26);
        test(GONE, "a late OFFER: it is HELD and not GOING, till one more GONE", x -> {
            x.emptyBooks(1);
            x.offer(0);
            x.twice(0);
            x.deliver(0);
            x.deliver(1);
            x.over(0);
            x.deliver(2);
            due("HELD no more", x.about(0, 4), 0);
            x.deliver(0);
            due("HELD", x.about(0, 4), 1);
            due("YES", x.message(3, 0), 1);
            x.deliver(3);
            due("HELD, GONE is under way", x.about(0, 4), 1);
            x.deliver(4);
            due("HELD no more", x.about(0, 4), 0);
        });
        test(GONE, "not GOING: a LETTER that comes late lets it be HELD", x -> {
            x.emptyBooks(1);
            x.offer(0);
            x.twice(0);
            x.deliver(0);
            x.deliver(1);
            x.send(0);
            x.twice(2);
            x.deliver(2);
            x.over(0);
            x.deliver(3);
            due("HELD no more", x.about(0, 4), 0);
            x.deliver(0);
            x.deliver(2);
            due("TWICE", x.count(9), 1);
            due("HELD", x.about(0, 4), 1);
        });
        test(GONE, "an OFFER of one that is GOING and HELD: it is GOING still", x -> {
            x.emptyBooks(1);
            x.offer(0);
            x.twice(0);
            x.deliver(0);
            x.deliver(1);
            x.send(0);
            x.over(0);
            x.deliver(3);
            x.deliver(0);
            due("YES", x.message(4, 0), 1);
            due("HELD", x.about(0, 4), 1);
            x.deliver(2);
            due("HELD no more", x.about(0, 4), 0);
        });
        test(GONE, "an OFFER of one that is GOING, when 4 others are HELD: NO", x -> {
            x.emptyBooks(5);
            x.offer(0);
            x.twice(0);
            x.deliver(0);
            x.deliver(1);
            x.over(0);
            x.deliver(2);
            for (int i = 1; i < 5; i++) x.makeReady(i);
            due("count(7)", x.count(7), 4);
            x.deliver(0);
            due("NO", x.message(11, 0), 2);
            due("not HELD", x.about(0, 4), 0);
            x.deliver(11);
            due("it is", x.about(0, 3), OVER);
        });
        test(GONE, "of one that is not HELD: nothing", x -> {
            x.emptyBooks(1);
            x.makeReady(0);
            x.over(0);
            x.twice(2);
            x.deliver(2);
            due("deliver(2)", x.deliver(2), 0);
            due("not HELD", x.about(0, 4), 0);
            due("count(7)", x.count(7), 0);
            due("count(5)", x.count(5), 3);
        });
    }

    private void going() {
        promise(26);
        test(GOING, "at once: no LETTER was sent", x -> {
            x.emptyBooks(1);
            x.makeReady(0);
            x.over(0);
            due("HELD", x.about(0, 4), 1);
            x.deliver(2);
            due("HELD no more", x.about(0, 4), 0);
        });
        test(GOING, "at once: all LETTERS came ahead", x -> {
            x.emptyBooks(1);
            x.makeReady(0);
            x.send(0);
            x.send(0);
            x.over(0);
            x.deliver(2);
            x.deliver(3);
            due("HELD", x.about(0, 4), 1);
            x.deliver(4);
            due("HELD no more", x.about(0, 4), 0);
        });
        test(GOING, "at once: all LETTERS were told lost", x -> {
            x.emptyBooks(1);
            x.makeReady(0);
            x.send(0);
            x.over(0);
            x.lose(2);
            due("HELD", x.about(0, 4), 1);
            x.deliver(3);
            due("HELD no more", x.about(0, 4), 0);
        });
        test(GOING, "one LETTER is to come still", x -> {
            x.emptyBooks(1);
            x.makeReady(0);
            x.send(0);
            x.send(0);
            x.over(0);
            x.deliver(2);
            x.deliver(4);
            due("HELD", x.about(0, 4), 1);
            x.deliver(3);
            due("HELD no more", x.about(0, 4), 0);
        });
        test(GOING, "the last LETTER is told lost", x -> {
            x.emptyBooks(1);
            x.makeReady(0);
            x.send(0);
            x.send(0);
            x.over(0);
            x.deliver(4);
            x.deliver(2);
            due("HELD", x.about(0, 4), 1);
            due("lose(3)", x.lose(3), 0);
            due("HELD no more", x.about(0, 4), 0);
        });
        test(GOING, "a LETTER that comes twice counts once", x -> {
            x.emptyBooks(1);
            x.makeReady(0);
            x.send(0);
            x.send(0);
            x.twice(2);
            x.over(0);
            x.deliver(4);
            x.deliver(2);
            x.deliver(2);
            due("HELD", x.about(0, 4), 1);
        });
        test(GOING, "a LETTER that is lost twice, or comes then, counts once", x -> {
            x.emptyBooks(1);
            x.makeReady(0);
            x.send(0);
            x.send(0);
            x.over(0);
            x.deliver(4);
            x.lose(2);
            x.twice(2);
            x.lose(2);
            due("HELD", x.about(0, 4), 1);
            x.twice(2);
            x.deliver(2);
            due("HELD", x.about(0, 4), 1);
            x.deliver(3);
            due("HELD no more", x.about(0, 4), 0);
        });
        test(GOING, "a LETTER that came, and is lost then, counts once", x -> {
            x.emptyBooks(1);
            x.makeReady(0);
            x.send(0);
            x.send(0);
            x.over(0);
            x.deliver(4);
            x.twice(2);
            x.deliver(2);
            x.lose(2);
            due("HELD", x.about(0, 4), 1);
        });
        test(GOING, "LETTERS with another BOOK, or with NONE, do not count", x -> {
            x.emptyBooks(2);
            x.makeReady(0);
            x.makeReady(1);
            x.send(0);
            x.over(0);
            x.deliver(5);
            x.send(1);
            x.deliver(6);
            x.send(NONE);
            x.deliver(7);
            due("HELD", x.about(0, 4), 1);
            x.deliver(4);
            due("HELD no more", x.about(0, 4), 0);
            due("the other is HELD", x.about(1, 4), 1);
        });
        test(GOING, "one that is not GOING is HELD, though all LETTERS came", x -> {
            x.emptyBooks(1);
            x.makeReady(0);
            x.send(0);
            x.deliver(2);
            due("HELD", x.about(0, 4), 1);
            x.over(0);
            due("HELD, GONE is under way", x.about(0, 4), 1);
            x.lose(3);
            due("HELD, GONE is lost", x.about(0, 4), 1);
        });
        test(GOING, "HELD again, and GOING again: all LETTERS came long ago", x -> {
            x.emptyBooks(1);
            x.offer(0);
            x.twice(0);
            x.deliver(0);
            x.deliver(1);
            x.send(0);
            x.deliver(2);
            x.over(0);
            x.deliver(3);
            x.deliver(0);
            due("HELD", x.about(0, 4), 1);
            x.twice(3);
            x.deliver(3);
            due("HELD no more", x.about(0, 4), 0);
        });
    }

    private void withoutRoom() {
        promise(26);
        test(NOT_SENT, "YES is the last MESSAGE that there is room for", x -> {
            x.emptyBooks(1);
            x.offer(0);
            x.fillWire(199);
            due("deliver(0)", x.deliver(0), 0);
            due("YES", x.message(199, 0), 1);
            due("count(5)", x.count(5), 200);
        });
        test(NOT_SENT, "no room for YES: HELD all the same", x -> {
            x.emptyBooks(1);
            x.offer(0);
            x.fillWire(200);
            due("deliver(0)", x.deliver(0), 1);
            due("HELD", x.about(0, 4), 1);
            due("it is", x.about(0, 3), OFFERED);
            due("under way", x.message(0, 2), 0);
            due("count(5)", x.count(5), 200);
        });
        test(NOT_SENT, "no room for the YES of one that is HELD", x -> {
            x.emptyBooks(1);
            x.offer(0);
            x.twice(0);
            x.deliver(0);
            x.fillWire(200);
            due("deliver(0)", x.deliver(0), 1);
            due("HELD", x.about(0, 4), 1);
        });
        test(NOT_SENT, "no room for NO", x -> {
            x.emptyBooks(5);
            for (int i = 0; i < 4; i++) x.makeReady(i);
            x.offer(4);
            x.fillWire(200);
            due("deliver(8)", x.deliver(8), 1);
            due("not HELD", x.about(4, 4), 0);
            due("it is", x.about(4, 3), OFFERED);
            due("under way", x.message(8, 2), 0);
        });
        test(NOT_SENT, "no room for GONE", x -> {
            x.emptyBooks(1);
            x.makeReady(0);
            x.over(0);
            x.twice(1);
            x.fillWire(200);
            due("deliver(1)", x.deliver(1), 1);
            due("it is", x.about(0, 3), OVER);
            due("under way", x.message(1, 2), 0);
        });
        test(NOT_SENT, "GONE is the last MESSAGE that there is room for", x -> {
            x.emptyBooks(1);
            x.makeReady(0);
            x.over(0);
            x.twice(1);
            x.fillWire(199);
            due("deliver(1)", x.deliver(1), 0);
            due("GONE", x.message(199, 0), 4);
        });
        test("A MESSAGE is delivered: 0", "no room, and nothing that should be sent", x -> {
            x.emptyBooks(5);
            for (int i = 0; i < 4; i++) x.makeReady(i);
            x.offer(4);
            x.deliver(8);
            x.offer(4);
            x.twice(1);
            x.over(1);
            x.fillWire(200);
            due("YES to READY", x.deliver(1), 0);
            due("NO to OFFERED", x.deliver(9), 0);
            due("it is", x.about(4, 3), IDLE);
            due("GONE", x.deliver(11), 0);
            due("HELD no more", x.about(1, 4), 0);
            due("LETTER", x.deliver(12), 0);
            due("came", x.count(8), 1);
        });
        test("A MESSAGE is delivered: 0", "no room, a YES that makes READY", x -> {
            x.emptyBooks(1);
            x.offer(0);
            x.deliver(0);
            x.fillWire(200);
            due("deliver(1)", x.deliver(1), 0);
            due("it is", x.about(0, 3), READY);
        });
    }

    private void lose() {
        promise(27);
        String lost = "It is lost: how often it is under way still.";
        test(lost, "2, 1 and 0", x -> {
            x.send(NONE);
            x.twice(0);
            x.twice(0);
            for (int left = 2; left >= 0; left--) {
                due("lose(0)", x.lose(0), left);
                due("under way", x.message(0, 2), left);
            }
        });
        test("BAD; NO.", "-1, and the MESSAGE behind the last", x -> {
            due("lose(0)", x.lose(0), BAD);
            x.send(NONE);
            due("lose(-1)", x.lose(-1), BAD);
            due("lose(1)", x.lose(1), BAD);
            due("under way", x.message(0, 2), 1);
        });
        test("BAD; NO.", "199 and 200 of 200", x -> {
            x.fillWire(200);
            due("lose(200)", x.lose(200), BAD);
            due("lose(199)", x.lose(199), 0);
        });
        test("BAD; NO.", "lost already, and delivered already", x -> {
            x.send(NONE);
            x.send(NONE);
            x.lose(0);
            due("lose(0)", x.lose(0), NO);
            x.deliver(1);
            due("lose(1)", x.lose(1), NO);
            due("its fate", x.message(1, 4), 1);
        });
        test(LOST, "a LETTER that is under way once", x -> {
            x.send(NONE);
            x.lose(0);
            due("its fate", x.message(0, 4), 2);
            due("count(6)", x.count(6), 0);
        });
        test(LOST, "a LETTER that is under way still is not told lost", x -> {
            x.send("abc", NONE);
            x.twice(0);
            x.lose(0);
            due("its fate", x.message(0, 4), 0);
            x.deliver(0);
            due("its fate", x.message(0, 4), 1);
            due("came", x.count(8), 1);
        });
        test(LOST, "a LETTER that came is not told lost", x -> {
            x.send("abc", NONE);
            x.twice(0);
            x.deliver(0);
            x.lose(0);
            due("its fate", x.message(0, 4), 1);
            due("TWICE", x.count(9), 0);
        });
        test(LOST, "a LETTER that was told lost stays so", x -> {
            x.send("abc", NONE);
            x.lose(0);
            x.twice(0);
            due("its fate", x.message(0, 4), 2);
            due("lose(0)", x.lose(0), 0);
            due("its fate", x.message(0, 4), 2);
        });
        test(LOST, "an OFFER, a YES, a NO or a GONE changes nothing", x -> {
            x.emptyBooks(5);
            for (int i = 0; i < 5; i++) x.offer(i);
            for (int i = 0; i < 5; i++) x.deliver(i);
            x.deliver(5);
            x.over(0);
            x.offer(1);
            for (int message : new int[] {6, 9, 10, 11}) {
                due("lose", x.lose(message), 0);
                due("its fate", x.message(message, 4), NONE);
            }
            due("YES is lost", x.about(1, 3), OFFERED);
            due("NO is lost", x.about(4, 3), OFFERED);
            due("GONE is lost", x.about(0, 4), 1);
            due("count(5)", x.count(5), 12);
        });
        test(LOST, "with no room on the wire", x -> {
            x.fillWire(200);
            due("lose(0)", x.lose(0), 0);
            due("its fate", x.message(0, 4), 2);
        });
    }

    private void twice() {
        promise(28);
        String more = "It is under way once more (also if it was not any more): how often.";
        test(more, "2 and 3", x -> {
            x.send(NONE);
            due("twice(0)", x.twice(0), 2);
            due("twice(0)", x.twice(0), 3);
            due("under way", x.message(0, 2), 3);
            due("count(5)", x.count(5), 1);
        });
        test(more, "delivered already, lost already: 1", x -> {
            x.send(NONE);
            x.send(NONE);
            x.deliver(0);
            x.lose(1);
            due("twice(0)", x.twice(0), 1);
            due("twice(1)", x.twice(1), 1);
        });
        test(more, "each sort of MESSAGE", x -> {
            x.emptyBooks(5);
            for (int i = 0; i < 5; i++) x.offer(i);
            for (int i = 0; i < 5; i++) x.deliver(i);
            x.deliver(5);
            x.send(0);
            x.over(0);
            due("OFFER", x.twice(0), 1);
            due("YES", x.twice(6), 2);
            due("NO", x.twice(9), 2);
            due("LETTER", x.twice(10), 2);
            due("GONE", x.twice(11), 2);
        });
        test("BAD; NO: it is under way 3 times.", "a fourth time", x -> {
            x.send(NONE);
            x.twice(0);
            x.twice(0);
            due("twice(0)", x.twice(0), NO);
            due("under way", x.message(0, 2), 3);
        });
        test("BAD; NO: it is under way 3 times.", "once it is 2 times, it can be 3 times again", x -> {
            x.send(NONE);
            x.twice(0);
            x.twice(0);
            x.deliver(0);
            due("twice(0)", x.twice(0), 3);
            x.lose(0);
            due("twice(0)", x.twice(0), 3);
            due("twice(0)", x.twice(0), NO);
        });
        test("BAD; NO: it is under way 3 times.", "-1, and the MESSAGE behind the last", x -> {
            due("twice(0)", x.twice(0), BAD);
            x.send(NONE);
            due("twice(-1)", x.twice(-1), BAD);
            due("twice(1)", x.twice(1), BAD);
        });
        test("BAD; NO: it is under way 3 times.", "199 and 200 of 200, with no room on the wire", x -> {
            x.fillWire(200);
            due("twice(200)", x.twice(200), BAD);
            due("twice(199)", x.twice(199), 2);
        });
    }
}
