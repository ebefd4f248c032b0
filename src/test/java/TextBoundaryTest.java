import java.util.List;

/** Boundary cases of the buffer and the orders in it, and of promises 11 to 14. */
public final class TextBoundaryTest extends Relays {

    private static final String PARTS = "Orders as a text are one or more parts with \";\" between them";
    private static final String WRITE = "\"w\", a place, 0 to 3, a topic, 0 to 3, \"=\" and a value, 0 to 99, without"
        + " leading zeros (a row is written)";
    private static final String COMMIT_OR_DROP = "\"c\" or \"d\" and a place (a transaction is committed, or dropped)";
    private static final String TICKS_PASS = "\"t\" and ticks, 1 to 99, without leading zeros (they pass)";
    private static final String ERROR = "a character is a syntax error if no orders as a text, of any length, begin with"
        + " the characters before it and this character.";
    private static final String OBEYS = "Does the orders in the buffer as begin(), write(), commit(), drop(), pass() and"
        + " sweep() do, one after the other, up to the first one that would throw an exception, and clears the buffer.";

    private static OutboxRelay typed(String text) {
        return after(x -> type(x, text));
    }

    /** That these texts have no error and can be obeyed. */
    private static void complete(String... texts) {
        for (String text : texts) {
            OutboxRelay x = typed(text);
            same("first error of " + text, x.firstError(), text.length());
            x.obey();
            same("left of " + text, x.clearBuffer(), 0);
        }
    }

    /** That these texts have no error, but cannot be obeyed. */
    private static void begun(String... texts) {
        for (String text : texts) {
            same("first error of " + text, typed(text).firstError(), text.length());
            refusedAfter(x -> type(x, text), ARGUMENT, "obey " + text, OutboxRelay::obey);
        }
    }

    /** That these texts have their first error at this index, and cannot be obeyed. */
    private static void wrongAt(int index, String... texts) {
        for (String text : texts) {
            same("first error of " + text, typed(text).firstError(), index);
            refusedAfter(x -> type(x, text), ARGUMENT, "obey " + text, OutboxRelay::obey);
        }
    }

    /** As many times "s;" as to fill so many characters. */
    private static String sweeps(int length) {
        return "s;".repeat(length / 2);
    }

    /** Where the orders are obeyed: transactions at 0 and 1, the latter full. */
    private static OutboxRelay withFullTransaction() {
        return after(x -> obeyed(x, "b;b;w00=1;w10=1;w10=1;w10=1;w10=1;w10=1;w10=1"));
    }

    // Terms

    @Sentence(says = "The buffer has at most 60 characters.")
    static void sixtyCharactersAndNoMore() {
        OutboxRelay x = typed(sweeps(58) + "b");
        same("the sixtieth", x.append('x'), 60);
        refused(x, "one more", STATE, () -> x.append('x'));
        same("length", x.clearBuffer(), 60);
    }

    @Sentence(says = PARTS)
    static void onePart() {
        complete("b", "w00=0", "c0", "d0", "t1", "s");
    }

    @Sentence(says = PARTS)
    static void asManyPartsAsTheBufferHolds() {
        complete("b;s", "s;s;s", sweeps(58) + "t1", sweeps(58) + "s");
        same("thirty", obeyed(new OutboxRelay(), sweeps(58) + "s"), 30);
    }

    @Sentence(says = PARTS)
    static void noPartIsNoOrders() {
        begun("");
        refusedAfter(x -> obeyed(x, "b;s"), ARGUMENT, "obey once more", OutboxRelay::obey);
    }

    @Sentence(says = PARTS)
    static void nothingBetweenOrBeforeOrBehindTheParts() {
        wrongAt(0, ";", ";b");
        wrongAt(1, "bb", "ss", "bs");
        wrongAt(2, "b;;b", "b;;", "c0c0", "t1t1");
        wrongAt(5, "w00=0b");
        begun("b;", "s;s;");
    }

    @Sentence(says = "\"b\" (a transaction is begun)")
    static void theOrderToBegin() {
        complete("b");
        wrongAt(0, "a", "B");
        wrongAt(1, "b0", "b=");
        OutboxRelay x = new OutboxRelay();
        same("orders", obeyed(x, "b;b;b;b"), 4);
        same("begun", x.count(10), 4);
    }

    @Sentence(says = WRITE)
    static void thePlaceOfARow() {
        complete("w00=1", "w10=1", "w20=1", "w30=1");
        wrongAt(1, "w/0=1", "w40=1", "w=", "w;", "w-1");
        OutboxRelay x = after(y -> obeyed(y, "b;b;b;b"));
        same("orders", obeyed(x, "w00=1;w30=1;w30=1"), 3);
        same("rows", told(4, place -> x.transaction(place, 0)), List.of(1, 0, 0, 2));
    }

    @Sentence(says = WRITE)
    static void theTopicOfARow() {
        complete("w00=1", "w01=1", "w02=1", "w03=1");
        wrongAt(2, "w0/=1", "w04=1", "w0=1", "w0;");
        OutboxRelay x = new OutboxRelay();
        same("orders", obeyed(x, "b;w00=1;w03=1;c0"), 4);
        same("topics", ofRows(x, 3), List.of(0, 3));
    }

    @Sentence(says = WRITE)
    static void theSignBetweenTopicAndValue() {
        begun("w00");
        wrongAt(3, "w005", "w00<5", "w00>5", "w00;", "w000=1");
    }

    @Sentence(says = WRITE)
    static void theValueOfARow() {
        complete("w00=0", "w00=1", "w00=9", "w00=10", "w00=90", "w00=99");
        OutboxRelay x = new OutboxRelay();
        same("orders", obeyed(x, "b;w00=0;w00=9;w00=10;w00=99;c0"), 6);
        same("values", ofRows(x, 4), List.of(0, 9, 10, 99));
    }

    @Sentence(says = WRITE)
    static void noValueAndLeadingZerosAndThreeDigits() {
        begun("w00=");
        wrongAt(4, "w00=/", "w00=:", "w00=;", "w00==", "w00=-1");
        wrongAt(5, "w00=00", "w00=05", "w00=1/", "w00=1:");
        wrongAt(6, "w00=100", "w00=999", "w00=10:");
    }

    @Sentence(says = COMMIT_OR_DROP)
    static void thePlaceToCommit() {
        complete("c0", "c1", "c2", "c3");
        begun("c");
        wrongAt(1, "c/", "c4", "c;", "c=");
        wrongAt(2, "c00", "c0=", "c30");
        OutboxRelay x = after(y -> obeyed(y, "b;b;b;b"));
        same("the first and the last", obeyed(x, "c0;c3"), 2);
        same("open", told(4, place -> x.transaction(place, 0)), List.of(-1, 0, 0, -1));
    }

    @Sentence(says = COMMIT_OR_DROP)
    static void thePlaceToDrop() {
        complete("d0", "d1", "d2", "d3");
        begun("d");
        wrongAt(1, "d/", "d4", "d;", "d=");
        wrongAt(2, "d00", "d0=", "d30");
        OutboxRelay x = after(y -> obeyed(y, "b;b;b;b"));
        same("the first and the last", obeyed(x, "d0;d3"), 2);
        same("open", told(4, place -> x.transaction(place, 0)), List.of(-1, 0, 0, -1));
    }

    @Sentence(says = TICKS_PASS)
    static void theLeastAndTheMostTicks() {
        complete("t1", "t9", "t10", "t90", "t99");
        OutboxRelay x = new OutboxRelay();
        obeyed(x, "t1");
        same("the least", x.count(0), 1);
        obeyed(x, "t99");
        same("the most", x.count(0), 100);
        obeyed(x, "t9;t10");
        same("of one digit and of two", x.count(0), 119);
    }

    @Sentence(says = TICKS_PASS)
    static void noTicksAndLeadingZerosAndThreeDigits() {
        begun("t");
        wrongAt(1, "t0", "t01", "t/", "t:", "t;", "t-1");
        wrongAt(2, "t1/", "t1:", "t1=");
        wrongAt(3, "t100", "t999", "t10:");
    }

    @Sentence(says = "or \"s\" (sweeping).")
    static void theOrderToSweep() {
        complete("s");
        wrongAt(0, "r", "S");
        wrongAt(1, "s0", "s=");
        OutboxRelay x = new OutboxRelay();
        wantNothing(x);
        same("orders", obeyed(x, "b;w00=1;c0;s"), 4);
        same("swept", x.count(4), 1);
    }

    @Sentence(says = "The buffer is read from left to right")
    static void theFirstOfSeveralErrors() {
        wrongAt(0, "xyz");
        wrongAt(1, "w4x;;");
        wrongAt(3, "b;c;t0;x");
    }

    @Sentence(says = ERROR)
    static void theFirstCharacterIsAnError() {
        wrongAt(0, "!", "~", "x", "0", "=", ";");
    }

    @Sentence(says = ERROR)
    static void theLastCharacterIsAnError() {
        wrongAt(59, sweeps(58) + "sx", sweeps(58) + "bb", sweeps(58) + "w4", sweeps(58) + "t0");
    }

    @Sentence(says = ERROR)
    static void aTextThatWouldEndBehindTheBufferIsNone() {
        begun(sweeps(60), sweeps(58) + "w0", sweeps(56) + "w03=", sweeps(58) + "t", sweeps(58) + "c");
    }

    // Promise 11

    @Sentence(promise = 11, says = "Appends a character to the buffer.")
    static void appendsBehindTheLastCharacter() {
        OutboxRelay x = typed("b;");
        same("the third", x.append('w'), 3);
        same("the fourth, an error", List.of(x.append('4'), x.firstError()), List.of(4, 3));
        sameDigest("all of them", y -> type(y, "b;w4"), false, "b;w4");
    }

    @Sentence(promise = 11, says = "- `code`: the character code, 33 to 126")
    static void appendTheLeastAndTheGreatestCode() {
        OutboxRelay x = new OutboxRelay();
        same("33", x.append(33), 1);
        same("126", x.append(126), 2);
        sameDigest("as they are", y -> type(y, "!~"), false, "!~");
        refusedBeside(33, 126, ARGUMENT, "code", OutboxRelay::append);
    }

    @Sentence(promise = 11, says = "Returns the new length of the buffer.")
    static void appendReturnsTheLength() {
        OutboxRelay x = new OutboxRelay();
        same("lengths", told(60, i -> x.append('s')), told(60, i -> i + 1));
        x.clearBuffer();
        same("anew", x.append('s'), 1);
    }

    @Sentence(promise = 11, says = "Throws `IllegalArgumentException` if code is not 33 to 126")
    static void appendOfNoSuchCode() {
        for (int code : new int[] {32, 127, 0, -33, 9, 256 + 'b', 65536 + 'b'}) {
            refusedAlways(ARGUMENT, "code " + code, x -> x.append(code));
        }
    }

    @Sentence(promise = 11, says = "Throws `IllegalStateException` if the buffer has 60 characters")
    static void appendToAFullBuffer() {
        refusedAfter(x -> type(x, sweeps(60)), STATE, "a 61st", x -> x.append('s'));
        same("with 59", typed(sweeps(58) + "s").append(';'), 60);
        OutboxRelay x = typed(sweeps(58) + "s");
        x.obey();
        same("when it is cleared", x.append('s'), 1);
    }

    // Promise 12

    @Sentence(promise = 12, says = "Clears the buffer.")
    static void clearsTheBuffer() {
        OutboxRelay x = new OutboxRelay();
        long before = x.digest();
        type(x, sweeps(60));
        x.clearBuffer();
        same("as before", x.digest(), before);
        type(x, "b");
        same("nothing of it is left", x.obey(), 1);
    }

    @Sentence(promise = 12, says = "Returns the length that it had.")
    static void clearBufferReturnsTheLength() {
        OutboxRelay x = new OutboxRelay();
        same("empty", x.clearBuffer(), 0);
        type(x, "!");
        same("one", x.clearBuffer(), 1);
        type(x, sweeps(60));
        same("full", x.clearBuffer(), 60);
        same("empty again", x.clearBuffer(), 0);
    }

    // Promise 13

    @Sentence(promise = 13,
        says = "Returns the index of the first character that is a syntax error; the length of the buffer if there is none.")
    static void firstErrorAtTheFirstAndTheLastIndex() {
        same("the first", typed("x").firstError(), 0);
        same("the last", typed(sweeps(58) + "tt").firstError(), 59);
    }

    @Sentence(promise = 13,
        says = "Returns the index of the first character that is a syntax error; the length of the buffer if there is none.")
    static void firstErrorWithoutOne() {
        same("empty", typed("").firstError(), 0);
        same("one character", typed("t").firstError(), 1);
        same("full", typed(sweeps(60)).firstError(), 60);
    }

    @Sentence(promise = 13, says = "Finds the first syntax error of the buffer.")
    static void firstErrorChangesNothing() {
        OutboxRelay x = after(Relays::isBusy);
        x.firstError();
        same("story", storyOf(x), storyOf(after(Relays::isBusy)));
    }

    // Promise 14

    @Sentence(promise = 14, says = OBEYS)
    static void aBeginThatWouldThrowEndsIt() {
        OutboxRelay x = new OutboxRelay();
        same("orders", obeyed(x, "b;b;b;b;b;t9"), 4);
        same("ticks", x.count(0), 0);
    }

    @Sentence(promise = 14, says = OBEYS)
    static void aWriteThatWouldThrowEndsIt() {
        OutboxRelay x = withFullTransaction();
        same("without a transaction", obeyed(x, "w00=1;w20=1;t9"), 1);
        same("with six rows", obeyed(x, "w00=1;w10=1;t9"), 1);
        same("ticks", x.count(0), 0);
        same("rows", told(4, place -> x.transaction(place, 0)), List.of(3, 6, -1, -1));
    }

    @Sentence(promise = 14, says = OBEYS)
    static void aCommitThatWouldThrowEndsIt() {
        OutboxRelay x = new OutboxRelay();
        same("without a transaction", obeyed(x, "b;c1;t9"), 1);
        commitMany(x, 54);
        same("up to 60 kept", obeyed(x, "w00=1;w00=1;w00=1;w00=1;w00=1;w00=1;c0"), 7);
        same("with 61 kept", obeyed(x, "b;w00=1;c0;t9"), 2);
        same("ticks", x.count(0), 0);
        same("the transaction is open", x.transaction(0, 0), 1);
    }

    @Sentence(promise = 14, says = OBEYS)
    static void aCommitOfMoreThanTwoHundredEndsIt() {
        OutboxRelay x = new OutboxRelay();
        wantNothing(x);
        for (int i = 0; i < 4; i++) {
            commitMany(x, i == 3 ? 19 : 60);
            x.sweep();
        }
        same("up to 200", obeyed(x, "b;w00=1;c0;s"), 4);
        same("with 201", obeyed(x, "b;w00=1;c0;s"), 2);
        same("committed", x.count(2), 200);
    }

    @Sentence(promise = 14, says = OBEYS)
    static void aDropThatWouldThrowEndsIt() {
        OutboxRelay x = new OutboxRelay();
        same("orders", obeyed(x, "b;d0;d0;t9"), 2);
        same("ticks", x.count(0), 0);
    }

    @Sentence(promise = 14, says = OBEYS)
    static void theBufferIsClearedAlsoIfNoneIsDone() {
        OutboxRelay x = new OutboxRelay();
        same("none", obeyed(x, "d0;t9"), 0);
        same("length", x.clearBuffer(), 0);
    }

    @Sentence(promise = 14, says = OBEYS)
    static void theOrdersDoAsTheCalls() {
        OutboxRelay x = new OutboxRelay();
        same("orders", obeyed(x, "b;w03=99;w00=0;c0;b;d0;t5;s;b;w01=7;t1"), 11);
        OutboxRelay y = new OutboxRelay();
        commitRows(y, 3, 99, 0, 0);
        y.begin();
        y.drop(0);
        y.pass(5);
        y.sweep();
        y.begin();
        y.write(0, 1, 7);
        y.pass(1);
        same("counts", told(11, x::count), told(11, y::count));
        same("receivers", told(3, r -> receiverOf(x, r).hashCode()), told(3, r -> receiverOf(y, r).hashCode()));
        same("the transaction", told(3, what -> x.transaction(0, what)), List.of(1, 2, 7));
    }

    @Sentence(promise = 14, says = "Returns how many are done.")
    static void obeyReturnsNoneAndAll() {
        same("none", obeyed(new OutboxRelay(), "c0"), 0);
        same("one", obeyed(new OutboxRelay(), "s"), 1);
        same("the last would throw", obeyed(new OutboxRelay(), "s;b;c1"), 2);
        same("all", obeyed(new OutboxRelay(), sweeps(58) + "b"), 30);
    }

    @Sentence(promise = 14, says = "Throws `IllegalArgumentException` if the buffer is not complete orders as a text")
    static void obeyOfWhatIsNotComplete() {
        begun("", "b;", "w00=", "w", "c", "t", sweeps(60));
        wrongAt(0, "x;b");
        wrongAt(2, "b;x");
    }

    public static void main(String[] args) {
        Sentences.run(TextBoundaryTest.class);
    }
}
