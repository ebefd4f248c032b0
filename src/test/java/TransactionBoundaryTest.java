import java.util.List;

/** Boundary cases of promises 1 to 5: a new object, transactions and their rows. */
public final class TransactionBoundaryTest extends Relays {

    private static final String PLACES = "There are 4 places for transactions, numbered from 0; at each there is an open"
        + " transaction, or none, as at first.";
    private static final String WRITE_NUMBERS = "rows get these from 0 in the order in which they are written, also in"
        + " transactions that are dropped later.";
    private static final String COMMIT_NUMBERS = "When a transaction is committed, its rows get commit numbers, from 0"
        + " over all commits, in the order in which they were written; they are kept then, until they are swept.";
    private static final String NUMBER = "The number of a row is its commit number if setting 0 is 0, its write number"
        + " if setting 0 is 1.";
    private static final String NEW = "Creates places without transactions, without rows, with an empty buffer and no"
        + " snapshot.";
    private static final String NO_TRANSACTION = "Throws `IndexOutOfBoundsException` if there is no transaction at this"
        + " place";
    private static final String TOO_MANY = "Throws `IllegalStateException` if more than 60 rows would be kept, or more"
        + " than 200 would have been committed";

    private static void hasFourOpen(OutboxRelay x) {
        obeyed(x, "b;b;b;b");
    }

    private static void hasFullTransaction(OutboxRelay x) {
        obeyed(x, "b;b;w10=1;w10=1;w10=1;w10=1;w10=1;w10=1");
    }

    private static void keeps59(OutboxRelay x) {
        commitMany(x, 59);
    }

    private static void keeps60(OutboxRelay x) {
        commitMany(x, 60);
    }

    /** Rows are swept in between, as not so many can be kept. */
    private static void committed198(OutboxRelay x) {
        wantNothing(x);
        for (int i = 0; i < 4; i++) {
            commitMany(x, i == 3 ? 18 : 60);
            x.sweep();
        }
    }

    private static void committed200(OutboxRelay x) {
        committed198(x);
        commitMany(x, 2);
    }

    private static void beginWith(OutboxRelay x, int rows) {
        int place = x.begin();
        for (int i = 0; i < rows; i++) {
            x.write(place, 0, 0);
        }
    }

    // Terms

    @Sentence(says = "`NONE = -1`: There is nothing to return.")
    static void noneIsMinusOne() {
        same("NONE", OutboxRelay.NONE, -1);
    }

    @Sentence(says = PLACES)
    static void theFourPlacesHaveNoneAtFirst() {
        OutboxRelay x = new OutboxRelay();
        same("at the four places", told(4, place -> x.transaction(place, 0)), List.of(-1, -1, -1, -1));
        same("open ones", x.count(10), 0);
    }

    @Sentence(says = PLACES)
    static void fourPlacesCanBeOpenAndNoFifth() {
        OutboxRelay x = after(TransactionBoundaryTest::hasFourOpen);
        same("at the four places", told(4, place -> x.transaction(place, 0)), List.of(0, 0, 0, 0));
        same("open ones", x.count(10), 4);
        refusedAfter(TransactionBoundaryTest::hasFourOpen, STATE, "a fifth", OutboxRelay::begin);
    }

    @Sentence(says = "A transaction has at most 6 rows.")
    static void sixRowsAndNoSeventh() {
        OutboxRelay x = after(TransactionBoundaryTest::hasFullTransaction);
        same("rows", x.transaction(1, 0), 6);
        refusedAfter(TransactionBoundaryTest::hasFullTransaction, STATE, "a seventh", y -> y.write(1, 0, 1));
        same("the other transaction takes a row", x.write(0, 0, 1), 6);
    }

    @Sentence(says = "A row has a topic, 0 to 3, a value, 0 to 99, and a write number")
    static void leastAndGreatestTopicAndValue() {
        OutboxRelay x = new OutboxRelay();
        commitRows(x, 0, 0, 3, 99);
        same("the least", List.of(x.row(0, 3), x.row(0, 4)), List.of(0, 0));
        same("the greatest", List.of(x.row(1, 3), x.row(1, 4)), List.of(3, 99));
    }

    @Sentence(says = WRITE_NUMBERS)
    static void theFirstWriteNumberIsZero() {
        OutboxRelay x = after(TransactionBoundaryTest::hasFourOpen);
        same("first", x.write(3, 0, 0), 0);
        same("second, elsewhere", x.write(0, 0, 0), 1);
        same("third", x.write(3, 0, 0), 2);
    }

    @Sentence(says = WRITE_NUMBERS)
    static void writeNumbersGoOnBehindADrop() {
        OutboxRelay x = new OutboxRelay();
        obeyed(x, "b;w00=1;w00=1;d0;b");
        same("the next", x.write(0, 0, 1), 2);
        same("rows written", x.count(1), 3);
    }

    @Sentence(says = COMMIT_NUMBERS)
    static void theFirstCommitNumberIsZero() {
        OutboxRelay x = new OutboxRelay();
        obeyed(x, "b;b;w00=1;w10=2;w10=3;c1;c0");
        same("commit numbers", ofRows(x, 2), List.of(0, 1, 2));
        same("by the order of writing in a transaction", ofRows(x, 1), List.of(1, 2, 0));
    }

    @Sentence(says = COMMIT_NUMBERS)
    static void commitNumbersGoOnBehindASweepAndADrop() {
        OutboxRelay x = new OutboxRelay();
        wantNothing(x);
        obeyed(x, "b;w00=1;w00=1;c0;s;b;w00=1;d0;b;c0;b;w00=1;c0");
        same("commit numbers", ofRows(x, 2), List.of(2));
    }

    @Sentence(says = COMMIT_NUMBERS)
    static void rowsAreKeptUntilTheyAreSwept() {
        OutboxRelay x = new OutboxRelay();
        commitRows(x, 0, 1);
        x.pass(99);
        same("though answered by all", x.count(3) * 10 + x.row(0, 6), 17);
        x.sweep();
        same("swept", x.count(3), 0);
    }

    @Sentence(says = "When it is dropped, its rows are gone.")
    static void droppedRowsAreGone() {
        OutboxRelay x = new OutboxRelay();
        obeyed(x, "b;w00=1;w00=1;d0;b");
        same("not in the next transaction", x.transaction(0, 0), 0);
        same("not committed, kept or swept", x.count(2) + x.count(3) + x.count(4), 0);
    }

    @Sentence(says = "At most 60 rows are kept, and at most 200 are committed ever.")
    static void sixtyRowsAreKept() {
        OutboxRelay x = after(TransactionBoundaryTest::keeps60);
        same("kept", x.count(3), 60);
        same("the last", x.row(59, 0), 59);
        wantNothing(x);
        x.sweep();
        commitMany(x, 60);
        same("and 60 again, behind a sweep", x.count(3), 60);
    }

    @Sentence(says = "At most 60 rows are kept, and at most 200 are committed ever.")
    static void twoHundredRowsAreCommitted() {
        OutboxRelay x = after(TransactionBoundaryTest::committed200);
        same("committed", x.count(2), 200);
        same("the last", x.row(1, 2), 199);
    }

    @Sentence(says = NUMBER)
    static void numbersWithTheSettingAsZero() {
        OutboxRelay x = relayWith(NUMBERS, 0);
        obeyed(x, "b;b;w00=1;w10=2;c1;c0");
        same("numbers", ofRows(x, 0), List.of(0, 1));
        same("commit numbers", ofRows(x, 2), List.of(0, 1));
        same("write numbers", ofRows(x, 1), List.of(1, 0));
    }

    @Sentence(says = NUMBER)
    static void numbersWithTheSettingAsOne() {
        OutboxRelay x = relayWith(NUMBERS, 1);
        obeyed(x, "b;b;w00=1;w10=2;c1;c0");
        same("numbers", ofRows(x, 0), List.of(0, 1));
        same("commit numbers", ofRows(x, 2), List.of(1, 0));
        same("write numbers", ofRows(x, 1), List.of(0, 1));
    }

    @Sentence(says = "All below goes by these numbers.")
    static void marksAndMessagesAndMemoryGoByTheNumbers() {
        for (int setting = 0; setting <= 1; setting++) {
            int second = setting == 0 ? 1 : 3;
            Step start = inTurn(with(NUMBERS, setting), obeying("b;w00=1;w00=1;d0;b;w00=5;w00=6;c0;t1"));
            OutboxRelay x = after(start);
            same("the batches with " + setting, ofMessages(x, 4), List.of(second, second, second));
            x.pass(2);
            same("the marks", ofReceivers(x, 1), List.of(second, second, second));
            same("the answers", ofMessages(x, 4), List.of(second, second, second));
            sameDigest("the memory", inTurn(start, passing(2)), false, "", second - 1, second);
            x.pass(2);
            same("the answer marks", ofReceivers(x, 8), List.of(second, second, second));
            same("the sums that they should have", ofReceivers(x, 12), List.of(11, 11, 11));
        }
    }

    // Promise 1

    @Sentence(promise = 1, says = NEW)
    static void newWithoutTransactions() {
        OutboxRelay x = new OutboxRelay();
        same("open", x.count(10), 0);
        for (int place = 0; place < 4; place++) {
            int at = place;
            refusedAfter(Relays::isNew, INDEX, "commit at " + place, y -> y.commit(at));
        }
    }

    @Sentence(promise = 1, says = NEW)
    static void newWithoutRows() {
        OutboxRelay x = new OutboxRelay();
        same("written, committed, kept, swept", told(4, what -> x.count(1 + what)), List.of(0, 0, 0, 0));
        refusedAfter(Relays::isNew, INDEX, "the first row", y -> y.row(0, 0));
    }

    @Sentence(promise = 1, says = NEW)
    static void newWithAnEmptyBuffer() {
        same("its length", new OutboxRelay().clearBuffer(), 0);
        same("its first character", new OutboxRelay().append('b'), 1);
    }

    @Sentence(promise = 1, says = NEW)
    static void newWithoutSnapshot() {
        refusedAfter(Relays::isNew, STATE, "goBack", OutboxRelay::goBack);
    }

    @Sentence(promise = 1, says = NEW)
    static void newWithNothingOfAnotherOne() {
        long before = new OutboxRelay().digest();
        after(Relays::isBusyLong);
        same("digest", new OutboxRelay().digest(), before);
        sameDigest("and it is as told", Relays::isNew, false, "");
    }

    // Promise 2

    @Sentence(promise = 2, says = "Begins a transaction, at the lowest place without one. Undoable.")
    static void beginTakesTheLowestPlace() {
        OutboxRelay x = after(TransactionBoundaryTest::hasFourOpen);
        obeyed(x, "d3;d0;d2");
        same("the first place", x.begin(), 0);
        same("a place between", x.begin(), 2);
        same("the last place", x.begin(), 3);
    }

    @Sentence(promise = 2, says = "Begins a transaction, at the lowest place without one. Undoable.")
    static void beginsWithoutRows() {
        OutboxRelay x = after(TransactionBoundaryTest::hasFullTransaction);
        x.drop(1);
        same("the same place", x.begin(), 1);
        same("rows, the first, the sum", told(3, what -> x.transaction(1, what)), List.of(0, -1, 0));
    }

    @Sentence(promise = 2, says = "Returns its place.")
    static void beginReturnsTheFourPlaces() {
        OutboxRelay x = new OutboxRelay();
        same("places", told(4, i -> x.begin()), List.of(0, 1, 2, 3));
    }

    @Sentence(promise = 2, says = "Throws `IllegalStateException` if there is none")
    static void beginWithoutAFreePlace() {
        refusedAfter(TransactionBoundaryTest::hasFourOpen, STATE, "begin", OutboxRelay::begin);
        OutboxRelay x = after(TransactionBoundaryTest::hasFourOpen);
        x.commit(3);
        same("with one that is free again", x.begin(), 3);
    }

    // Promise 3

    @Sentence(promise = 3, says = "- `place`: 0 to 3")
    static void writeAtTheFirstAndTheLastPlace() {
        OutboxRelay x = after(TransactionBoundaryTest::hasFourOpen);
        same("at 0", x.write(0, 1, 2), 0);
        same("at 3", x.write(3, 1, 2), 1);
        same("rows", told(4, place -> x.transaction(place, 0)), List.of(1, 0, 0, 1));
        refusedBeside(0, 3, INDEX, "place", (y, place) -> y.write(place, 0, 0));
    }

    @Sentence(promise = 3, says = "- `topic`: 0 to 3")
    static void writeTheFirstAndTheLastTopic() {
        OutboxRelay x = after(TransactionBoundaryTest::hasFourOpen);
        obeyed(x, "w00=1;c0;w13=1;c1");
        same("topics", ofRows(x, 3), List.of(0, 3));
        refusedBeside(0, 3, ARGUMENT, "topic", (y, topic) -> y.write(0, topic, 0));
    }

    @Sentence(promise = 3, says = "- `value`: 0 to 99")
    static void writeTheLeastAndTheGreatestValue() {
        OutboxRelay x = new OutboxRelay();
        commitRows(x, 0, 0, 0, 99);
        same("values", ofRows(x, 4), List.of(0, 99));
        refusedBeside(0, 99, ARGUMENT, "value", (y, value) -> y.write(0, 0, value));
    }

    @Sentence(promise = 3, says = "Returns the write number of the row.")
    static void writeReturnsTheWriteNumber() {
        OutboxRelay x = relayWith(NUMBERS, 0);
        commitRows(x, 0, 1);
        x.begin();
        x.begin();
        same("not its place in the transaction", x.write(1, 0, 1), 1);
        same("not the commit number that it will have", x.write(0, 0, 1), 2);
        x.commit(0);
        same("as told of the row", x.row(1, 1), 2);
    }

    @Sentence(promise = 3, says = NO_TRANSACTION)
    static void writeWithoutATransaction() {
        refusedAfter(Relays::isNew, INDEX, "write at 0", x -> x.write(0, 0, 0));
        refusedWhenBusy(INDEX, "write at 2", x -> x.write(2, 0, 0));
        refusedWhenBusy(INDEX, "write at 3", x -> x.write(3, 0, 0));
    }

    @Sentence(promise = 3, says = "Throws `IllegalArgumentException` if topic or value is out of range")
    static void writeWithATopicOrAValueOutOfRange() {
        refusedWhenBusy(ARGUMENT, "the topic alone", x -> x.write(1, 4, 99));
        refusedWhenBusy(ARGUMENT, "the value alone", x -> x.write(1, 3, 100));
        refusedWhenBusy(ARGUMENT, "both", x -> x.write(1, -1, -1));
    }

    @Sentence(promise = 3, says = "Throws `IllegalStateException` if the transaction has 6 rows")
    static void writeToAFullTransaction() {
        refusedAfter(TransactionBoundaryTest::hasFullTransaction, STATE, "a seventh row", x -> x.write(1, 3, 99));
        OutboxRelay x = after(TransactionBoundaryTest::hasFullTransaction);
        x.undo();
        obeyed(x, "b;w00=1;w00=1;w00=1;w00=1;w00=1");
        same("a sixth row", x.write(0, 3, 99), 5);
    }

    // Promise 4

    @Sentence(promise = 4, says = "- `place`: 0 to 3")
    static void commitAtTheFirstAndTheLastPlace() {
        OutboxRelay x = after(TransactionBoundaryTest::hasFourOpen);
        obeyed(x, "w30=1;w00=2");
        same("at 3", x.commit(3), 1);
        same("at 0", x.commit(0), 2);
        same("places", told(4, place -> x.transaction(place, 0)), List.of(-1, 0, 0, -1));
        refusedBeside(0, 3, INDEX, "place", OutboxRelay::commit);
    }

    @Sentence(promise = 4, says = "Returns how many rows are kept then.")
    static void commitReturnsHowManyAreKept() {
        OutboxRelay x = new OutboxRelay();
        wantNothing(x);
        x.begin();
        same("none, of an empty transaction", x.commit(0), 0);
        beginWith(x, 6);
        same("those of a full one", x.commit(0), 6);
        x.sweep();
        beginWith(x, 1);
        same("not those that were swept", x.commit(0), 1);
        beginWith(x, 2);
        same("earlier ones too", x.commit(0), 3);
    }

    @Sentence(promise = 4, says = NO_TRANSACTION)
    static void commitWithoutATransaction() {
        refusedAfter(Relays::isNew, INDEX, "commit at 0", x -> x.commit(0));
        refusedWhenBusy(INDEX, "commit at 2", x -> x.commit(2));
        refusedWhenBusy(INDEX, "commit at 3", x -> x.commit(3));
    }

    @Sentence(promise = 4, says = TOO_MANY)
    static void commitUpToSixtyKept() {
        OutboxRelay x = after(TransactionBoundaryTest::keeps59);
        beginWith(x, 1);
        same("exactly 60", x.commit(0), 60);
        beginWith(x, 0);
        same("60 and none", x.commit(0), 60);
    }

    @Sentence(promise = 4, says = TOO_MANY)
    static void commitOfMoreThanSixtyKept() {
        refusedAfter(x -> {
            keeps60(x);
            beginWith(x, 1);
        }, STATE, "60 and one", x -> x.commit(0));
        refusedAfter(x -> {
            keeps59(x);
            beginWith(x, 2);
        }, STATE, "59 and two", x -> x.commit(0));
    }

    @Sentence(promise = 4, says = TOO_MANY)
    static void commitUpToTwoHundredEver() {
        OutboxRelay x = after(TransactionBoundaryTest::committed198);
        beginWith(x, 2);
        same("exactly 200", x.commit(0), 2);
        same("ever", x.count(2), 200);
        beginWith(x, 0);
        same("200 and none", x.commit(0), 2);
    }

    @Sentence(promise = 4, says = TOO_MANY)
    static void commitOfMoreThanTwoHundredEver() {
        refusedAfter(x -> {
            committed198(x);
            beginWith(x, 3);
        }, STATE, "198 and three", x -> x.commit(0));
        refusedAfter(x -> {
            committed200(x);
            x.sweep();
            beginWith(x, 1);
        }, STATE, "200 that were swept, and one", x -> x.commit(0));
    }

    @Sentence(promise = 4, says = TOO_MANY)
    static void droppedRowsAreNoneOfTheTwoHundred() {
        OutboxRelay x = after(TransactionBoundaryTest::committed198);
        beginWith(x, 6);
        x.drop(0);
        beginWith(x, 2);
        same("exactly 200", x.commit(0), 2);
    }

    // Promise 5

    @Sentence(promise = 5, says = "- `place`: 0 to 3")
    static void dropAtTheFirstAndTheLastPlace() {
        OutboxRelay x = after(TransactionBoundaryTest::hasFourOpen);
        obeyed(x, "w00=1;w30=2;w30=2");
        same("at 0", x.drop(0), 1);
        same("at 3", x.drop(3), 2);
        same("places", told(4, place -> x.transaction(place, 0)), List.of(-1, 0, 0, -1));
        refusedBeside(0, 3, INDEX, "place", OutboxRelay::drop);
    }

    @Sentence(promise = 5, says = "Returns how many rows it had.")
    static void dropReturnsHowManyRows() {
        OutboxRelay x = after(TransactionBoundaryTest::hasFullTransaction);
        same("none", x.drop(0), 0);
        same("as many as can be", x.drop(1), 6);
    }

    @Sentence(promise = 5, says = NO_TRANSACTION)
    static void dropWithoutATransaction() {
        refusedAfter(Relays::isNew, INDEX, "drop at 0", x -> x.drop(0));
        refusedWhenBusy(INDEX, "drop at 2", x -> x.drop(2));
        refusedWhenBusy(INDEX, "drop at 3", x -> x.drop(3));
    }

    public static void main(String[] args) {
        Sentences.run(TransactionBoundaryTest.class);
    }
}
