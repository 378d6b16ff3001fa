import java.util.function.IntUnaryOperator;

/** Arguments far outside, down to the least and up to the greatest int, for each call that takes some. */
final class FarEdges extends Edges {
    private static final String BAD_NUMBER = "BAD: a number is not as told, or there is no such thing";

    /** What a call with a far number is, given the object. */
    private interface OfNumber {
        int on(Post x, int number);
    }

    @Override
    void run() {
        tapeAndBooks();
        packing();
        training();
        wire();
    }

    /** BOOKS, SAMPLES, MESSAGES, something packed and something trained: small numbers have a meaning. */
    private static void some(Post x) {
        x.book(2, "abcd", "ef");
        x.book(0);
        x.samples("abcd1", "2abcd", "abcd");
        x.train(2, 6);
        x.makeReady(0);
        x.send("abcd", 0);
        x.pack("abcdxyz", 0);
    }

    private void far(int number, String sentence, String edge, int below, int above, OfNumber call) {
        promise(number);
        test(sentence, edge + ", a new object", x -> answers(x, below, above, call));
        test(sentence, edge + ", an object that was used", x -> {
            some(x);
            answers(x, below, above, call);
        });
    }

    private void far(int number, String edge, OfNumber call) {
        far(number, BAD_NUMBER, edge, BAD, BAD, call);
    }

    private void answers(Post x, int below, int above, OfNumber call) {
        IntUnaryOperator ofNumber = number -> call.on(x, number);
        dueForAll("the call", FAR_BELOW, ofNumber, below);
        dueForAll("the call", FAR_ABOVE, ofNumber, above);
    }

    private void tapeAndBooks() {
        far(3, "trim()", (x, n) -> x.trim(n));
        far(5, "Byte i of OUT; NONE.", "out()", NONE, NONE, (x, n) -> x.out(n));
        far(7, "book()", (x, n) -> x.book(n));
        far(8, "about() of a BOOK", (x, n) -> x.about(n, 0));
        far(8, "about() of a what", (x, n) -> x.about(0, n));
        far(8, "about() of both", (x, n) -> x.about(n, n));
        far(9, "tell() of a BOOK", (x, n) -> x.tell(n, 0));
        far(9, "tell() of a k", (x, n) -> x.tell(0, n));
        far(9, "tell() of both", (x, n) -> x.tell(n, n));
        far(10, "isOf() of a BOOK", (x, n) -> x.isOf(n, 0));
        far(10, "isOf() of a kind", (x, n) -> x.isOf(0, n));
        far(10, "isOf() of both", (x, n) -> x.isOf(n, n));
    }

    private void packing() {
        far(11, "pack()", (x, n) -> x.pack(n));
        far(12, "greedy()", (x, n) -> x.greedy(n));
        far(14, "NONE: there are not so many.", "part() of an i", BAD, NONE, (x, n) -> x.part(n, 0));
        far(14, "part() of a what", (x, n) -> x.part(0, n));
        far(14, "part() of both", (x, n) -> x.part(n, n));
        far(15, "rest()", (x, n) -> x.rest(n));
    }

    private void training() {
        far(20, "train() of a kind", (x, n) -> x.train(n, 1));
        far(20, "train() of pieces", (x, n) -> x.train(1, n));
        far(20, "train() of both", (x, n) -> x.train(n, n));
        far(21, "NONE: there is none such.", "gained()", BAD, NONE, (x, n) -> x.gained(n));
        far(22, "price()", (x, n) -> x.price(n));
    }

    private void wire() {
        far(23, "offer()", (x, n) -> x.offer(n));
        far(24, "send()", (x, n) -> x.send(n));
        far(25, "over()", (x, n) -> x.over(n));
        far(26, "deliver()", (x, n) -> x.deliver(n));
        far(27, "lose()", (x, n) -> x.lose(n));
        far(28, "twice()", (x, n) -> x.twice(n));
        far(29, "message() of a MESSAGE", (x, n) -> x.message(n, 0));
        far(29, "message() of a what", (x, n) -> x.message(0, n));
        far(29, "message() of both", (x, n) -> x.message(n, n));
        far(31, "count()", (x, n) -> x.count(n));
    }
}
