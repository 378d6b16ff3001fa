/** Promises 29 to 31: MESSAGES looked at, the latest LETTER, and how many of all there are. */
final class LookEdges extends Edges {
    @Override
    void run() {
        message();
        latest();
        count();
        countsOfTheWire();
    }

    private void message() {
        promise(29);
        String sort = "Of a MESSAGE: what 0 its sort (0 OFFER, 1 YES, 2 NO, 3 LETTER, 4 GONE), 1 its BOOK (NONE), "
                + "2 how often it is under way";
        String told = "3 of a LETTER its COUNT, of GONE how many (else NONE)";
        String fate = "4 of a LETTER: 0 it neither came nor was told lost, 1 it came, 2 it was told lost (else NONE).";
        test(sort, "one of each sort", x -> {
            oneOfEach(x);
            int[][] want = {{0, 0, 0}, {1, 0, 0}, {2, 4, 1}, {3, 0, 1}, {4, 0, 1}, {3, NONE, 1}};
            int[] of = {0, 5, 9, 10, 11, 12};
            for (int i = 0; i < of.length; i++) {
                for (int what = 0; what < 3; what++) due("message", x.message(of[i], what), want[i][what]);
            }
        });
        test("OFFER b, YES b, NO b", "each tells its BOOK, the first and the last", x -> {
            x.emptyBooks(24);
            for (int i = 19; i < 24; i++) x.offer(i);
            for (int i = 0; i < 5; i++) x.deliver(i);
            due("OFFER", x.message(0, 1), 19);
            due("YES", x.message(5, 1), 19);
            due("NO", x.message(9, 1), 23);
        });
        test(sort, "under way 0, 1, 2 and 3 times", x -> {
            x.send(NONE);
            due("1", x.message(0, 2), 1);
            x.twice(0);
            due("2", x.message(0, 2), 2);
            x.twice(0);
            due("3", x.message(0, 2), 3);
            for (int i = 0; i < 3; i++) x.deliver(0);
            due("0", x.message(0, 2), 0);
        });
        test(told, "of OFFER, YES and NO: NONE", x -> {
            oneOfEach(x);
            for (int message : new int[] {0, 5, 9}) due("message", x.message(message, 3), NONE);
        });
        test(told, "of a LETTER 0, which is not NONE; of GONE 1", x -> {
            oneOfEach(x);
            due("LETTER", x.message(10, 3), 0);
            due("GONE", x.message(11, 3), 1);
            due("LETTER with NONE", x.message(12, 3), 0);
        });
        test(fate, "0, 1 and 2", x -> {
            for (int i = 0; i < 3; i++) x.send(NONE);
            x.deliver(1);
            x.lose(2);
            for (int i = 0; i < 3; i++) due("message", x.message(i, 4), i);
        });
        test(fate, "of OFFER, YES, NO and GONE: NONE, also if they came or are lost", x -> {
            oneOfEach(x);
            x.lose(9);
            x.deliver(11);
            for (int message : new int[] {0, 5, 9, 11}) due("message", x.message(message, 4), NONE);
        });
        test("BAD.", "what -1 and 5", x -> {
            x.send(NONE);
            due("message(0, -1)", x.message(0, -1), BAD);
            due("message(0, 5)", x.message(0, 5), BAD);
        });
        test("BAD.", "-1, and the MESSAGE behind the last", x -> {
            due("message(0, 0)", x.message(0, 0), BAD);
            x.send(NONE);
            for (int what = 0; what < 5; what++) {
                due("message(-1)", x.message(-1, what), BAD);
                due("message(1)", x.message(1, what), BAD);
            }
        });
        test("BAD.", "199 and 200 of 200", x -> {
            x.fillWire(200);
            due("message(199, 3)", x.message(199, 3), 199);
            due("message(200, 3)", x.message(200, 3), BAD);
        });
    }

    /** OFFER 0, YES 5, NO 9, LETTER 10 with BOOK 0, GONE 11, LETTER 12 with NONE. */
    private static void oneOfEach(Post x) {
        x.emptyBooks(5);
        for (int i = 0; i < 5; i++) x.offer(i);
        for (int i = 0; i < 5; i++) x.deliver(i);
        x.deliver(5);
        x.send(0);
        x.over(0);
        x.send(NONE);
    }

    private void latest() {
        promise(30);
        String letter = "OUT becomes the latest LETTER that came, as a letter: how many bytes.";
        String none = "NONE: none came.";
        test(none, "nothing sent", x -> due("latest()", x.latest(), NONE));
        test(none, "sent, and under way", x -> {
            x.send("abc", NONE);
            due("latest()", x.latest(), NONE);
        });
        test(none, "told lost, and TWICE then", x -> {
            x.send("abc", NONE);
            x.lose(0);
            x.twice(0);
            x.deliver(0);
            due("latest()", x.latest(), NONE);
        });
        test(none, "OUT stays", x -> {
            x.book(0, "xyz");
            x.tell(0, 0);
            x.send("abc", NONE);
            due("latest()", x.latest(), NONE);
            outIs(x, "xyz");
        });
        test(none, "other MESSAGES came", x -> {
            x.emptyBooks(1);
            x.makeReady(0);
            due("latest()", x.latest(), NONE);
        });
        test(letter, "of no bytes: 0, not NONE", x -> {
            x.book(0, "xyz");
            x.tell(0, 0);
            x.send(NONE);
            x.deliver(0);
            due("latest()", x.latest(), 0);
            outIs(x, "");
        });
        test(letter, "of 1 byte and of 120", x -> {
            x.send("a", NONE);
            x.send(fresh(120), NONE);
            x.deliver(0);
            due("latest()", x.latest(), 1);
            outIs(x, "a");
            x.deliver(1);
            due("latest()", x.latest(), 120);
            outIs(x, fresh(120));
        });
        test(letter, "the one that came latest, not the one sent latest", x -> {
            x.send("first", NONE);
            x.send("second", NONE);
            x.deliver(1);
            x.deliver(0);
            due("latest()", x.latest(), 5);
            outIs(x, "first");
        });
        test(letter, "one that comes TWICE is not the latest", x -> {
            x.send("first", NONE);
            x.send("second", NONE);
            x.twice(0);
            x.deliver(0);
            x.deliver(1);
            x.deliver(0);
            due("latest()", x.latest(), 6);
            outIs(x, "second");
        });
        test(letter, "one that is lost is not the latest", x -> {
            x.send("first", NONE);
            x.send("second", NONE);
            x.deliver(0);
            x.lose(1);
            due("latest()", x.latest(), 5);
        });
        test(letter, "again and again", x -> {
            x.send("abc", NONE);
            x.deliver(0);
            due("latest()", x.latest(), 3);
            x.pack("zz", NONE);
            due("latest()", x.latest(), 3);
            outIs(x, "abc");
        });
        test(letter, "with a BOOK of each KIND", x -> {
            for (int kind = 0; kind <= 2; kind++) {
                x.book(kind, "abcdef");
                x.makeReady(kind);
                x.send("xabcdefyabcdef" + kind, kind);
                x.deliver(3 * kind + 2);
                due("latest()", x.latest(), 15);
                outIs(x, "xabcdefyabcdef" + kind);
            }
        });
        test(letter, "its BOOK is HELD no more", x -> {
            x.book(2, "abcdef");
            x.makeReady(0);
            x.send("abcdefabcd", 0);
            x.over(0);
            x.deliver(3);
            x.deliver(2);
            due("HELD no more", x.about(0, 4), 0);
            due("latest()", x.latest(), 10);
            outIs(x, "abcdefabcd");
        });
    }

    private void count() {
        promise(31);
        test("0 BOOKS", "0 and 24", x -> {
            due("count(0)", x.count(0), 0);
            x.emptyBooks(24);
            due("count(0)", x.count(0), 24);
        });
        test("1 SAMPLES", "0 and 8", x -> {
            due("count(1)", x.count(1), 0);
            for (int i = 0; i < 8; i++) x.sample("a");
            due("count(1)", x.count(1), 8);
        });
        test("2 PIECES of THE DRAFT", "0 and 20, and 0 again", x -> {
            due("count(2)", x.count(2), 0);
            for (int i = 0; i < 20; i++) x.piece("ab");
            due("count(2)", x.count(2), 20);
            x.book(1);
            due("count(2)", x.count(2), 0);
        });
        test("3 bytes of the tape", "0, 1 and 240", x -> {
            due("count(3)", x.count(3), 0);
            x.load("a");
            due("count(3)", x.count(3), 1);
            x.trim(0);
            x.load(fresh(240));
            due("count(3)", x.count(3), 240);
        });
        test("4 of OUT", "0, 1 and 200", x -> {
            due("count(4)", x.count(4), 0);
            x.book(0, "a");
            x.book(0, fresh(200));
            x.tell(0, 0);
            due("count(4)", x.count(4), 1);
            x.tell(1, 0);
            due("count(4)", x.count(4), 200);
        });
        test("BAD.", "-1 and 11", x -> {
            due("count(-1)", x.count(-1), BAD);
            due("count(11)", x.count(11), BAD);
        });
        test("How many:", "each of its own number", x -> {
            x.emptyBooks(2);
            for (int i = 0; i < 3; i++) x.sample("abc");
            for (int i = 0; i < 4; i++) x.piece("abc");
            x.makeReady(0);
            for (int i = 0; i < 7; i++) x.send("abc", 0);
            for (int i = 2; i < 8; i++) x.deliver(i);
            for (int i = 2; i < 7; i++) {
                x.twice(i);
                x.deliver(i);
            }
            x.pack(fresh(10), NONE);
            x.load("abcdefghijkl");
            int[] want = {2, 3, 4, 12, 13, 9, 1, 1, 6, 5, 0};
            for (int what = 0; what <= 10; what++) due("count(" + what + ")", x.count(what), want[what]);
        });
    }

    private void countsOfTheWire() {
        promise(31);
        test("5 MESSAGES sent", "0 and 200, those that the RECEIVER sends among them", x -> {
            due("count(5)", x.count(5), 0);
            x.emptyBooks(1);
            x.offer(0);
            x.deliver(0);
            due("count(5)", x.count(5), 2);
            x.fillWire(200);
            due("count(5)", x.count(5), 200);
        });
        test("6 those under way", "0, 1 and 200", x -> {
            due("count(6)", x.count(6), 0);
            x.send(NONE);
            due("count(6)", x.count(6), 1);
            x.fillWire(200);
            due("count(6)", x.count(6), 200);
        });
        test("6 those under way", "a MESSAGE that is so 3 times is one", x -> {
            x.send(NONE);
            x.twice(0);
            x.twice(0);
            due("count(6)", x.count(6), 1);
            x.deliver(0);
            x.lose(0);
            due("count(6)", x.count(6), 1);
            x.deliver(0);
            due("count(6)", x.count(6), 0);
            x.twice(0);
            due("count(6)", x.count(6), 1);
        });
        test("7 BOOKS that are HELD", "0 and 4, with 5 offered", x -> {
            due("count(7)", x.count(7), 0);
            x.emptyBooks(5);
            for (int i = 0; i < 5; i++) x.makeReady(i);
            due("count(7)", x.count(7), 4);
        });
        test("8 LETTERS that came", "0, and 200 of 200", x -> {
            x.fillWire(200);
            due("count(8)", x.count(8), 0);
            for (int i = 0; i < 200; i++) x.deliver(i);
            due("count(8)", x.count(8), 200);
        });
        test("8 LETTERS that came", "neither those told lost nor those TWICE", x -> {
            x.send(NONE);
            x.send(NONE);
            x.lose(0);
            x.twice(0);
            x.deliver(0);
            x.twice(1);
            x.deliver(1);
            x.deliver(1);
            due("count(8)", x.count(8), 1);
        });
        test("9 TWICE", "each time that one comes TWICE", x -> {
            x.send(NONE);
            x.deliver(0);
            due("count(9)", x.count(9), 0);
            for (int i = 1; i <= 5; i++) {
                x.twice(0);
                x.deliver(0);
                due("count(9)", x.count(9), i);
            }
        });
        test("9 TWICE", "an OFFER, a YES or a GONE is never TWICE", x -> {
            x.emptyBooks(1);
            x.makeReady(0);
            x.over(0);
            x.deliver(2);
            for (int i = 0; i < 3; i++) {
                x.twice(i);
                x.deliver(i);
            }
            due("count(9)", x.count(9), 0);
        });
        test("10 MISSING.", "0: no LETTER that comes lacks its BOOK", x -> {
            x.emptyBooks(1);
            x.makeReady(0);
            x.send(0);
            x.send(0);
            x.twice(2);
            x.over(0);
            x.deliver(4);
            x.deliver(2);
            x.deliver(3);
            x.deliver(2);
            due("HELD no more", x.about(0, 4), 0);
            due("count(10)", x.count(10), 0);
        });
    }
}
