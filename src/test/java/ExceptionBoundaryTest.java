/** Boundary cases of calls that are refused: which of several exceptions is thrown, and that nothing is changed. */
public final class ExceptionBoundaryTest extends Relays {

    private static final String FIRST = "If several exceptions apply, the one that is named first in the throws clause is"
        + " thrown.";
    private static final String NOTHING = "A call that throws an exception changes nothing.";

    private static void hasFullTransaction(OutboxRelay x) {
        obeyed(x, "b;w00=1;w00=1;w00=1;w00=1;w00=1;w00=1");
    }

    private static void hasFullBuffer(OutboxRelay x) {
        type(x, "s;".repeat(30));
    }

    private static void hasCommitted(OutboxRelay x) {
        obeyed(x, "b;w00=1;c0");
    }

    @Sentence(says = FIRST)
    static void writeWithoutATransactionAndWithAWrongTopicOrValue() {
        refusedAlways(INDEX, "a topic", x -> x.write(3, 4, 0));
        refusedAlways(INDEX, "a value", x -> x.write(3, 0, 100));
        refusedAlways(INDEX, "both, and no such place", x -> x.write(4, -1, -1));
        refusedAfter(ExceptionBoundaryTest::hasFullTransaction, INDEX, "and another is full", x -> x.write(1, 4, 0));
    }

    @Sentence(says = FIRST)
    static void writeToAFullTransactionWithAWrongTopicOrValue() {
        refusedAfter(ExceptionBoundaryTest::hasFullTransaction, ARGUMENT, "a topic", x -> x.write(0, 4, 0));
        refusedAfter(ExceptionBoundaryTest::hasFullTransaction, ARGUMENT, "a value", x -> x.write(0, 0, 100));
        refusedAfter(ExceptionBoundaryTest::hasFullTransaction, STATE, "neither", x -> x.write(0, 3, 99));
    }

    @Sentence(says = FIRST)
    static void commitWithoutATransactionWhenSixtyAreKept() {
        refusedAfter(x -> commitMany(x, 60), INDEX, "commit", x -> x.commit(0));
    }

    @Sentence(says = FIRST)
    static void wantOfNoReceiverAndNoSuchTopics() {
        refusedAlways(INDEX, "above", x -> x.want(3, 16));
        refusedAlways(INDEX, "below", x -> x.want(-1, -1));
    }

    @Sentence(says = FIRST)
    static void setNoSettingToAnyValue() {
        refusedAlways(INDEX, "above", x -> x.set(7, FAR[1]));
        refusedAlways(INDEX, "below", x -> x.set(-1, FAR[0]));
    }

    @Sentence(says = FIRST)
    static void setTheNumbersToNoValueWhenARowIsCommitted() {
        refusedAfter(ExceptionBoundaryTest::hasCommitted, ARGUMENT, "above", x -> x.set(NUMBERS, 2));
        refusedAfter(ExceptionBoundaryTest::hasCommitted, ARGUMENT, "below", x -> x.set(NUMBERS, -1));
        refusedAfter(ExceptionBoundaryTest::hasCommitted, STATE, "a value", x -> x.set(NUMBERS, 1));
        refusedAfter(ExceptionBoundaryTest::hasCommitted, INDEX, "no setting", x -> x.set(7, 2));
    }

    @Sentence(says = FIRST)
    static void appendNoCodeToAFullBuffer() {
        refusedAfter(ExceptionBoundaryTest::hasFullBuffer, ARGUMENT, "32", x -> x.append(32));
        refusedAfter(ExceptionBoundaryTest::hasFullBuffer, ARGUMENT, "127", x -> x.append(127));
        refusedAfter(ExceptionBoundaryTest::hasFullBuffer, STATE, "33", x -> x.append(33));
        refusedAfter(ExceptionBoundaryTest::hasFullBuffer, STATE, "126", x -> x.append(126));
    }

    @Sentence(says = FIRST)
    static void rowOfNoRankAndNoKind() {
        refusedAlways(INDEX, "above", x -> x.row(60, 8));
        refusedAlways(INDEX, "below", x -> x.row(-1, -1));
        refusedAfter(Relays::isNew, INDEX, "the first one", x -> x.row(0, 8));
    }

    @Sentence(says = FIRST)
    static void transactionAtNoPlaceAndNoKind() {
        refusedAlways(INDEX, "above", x -> x.transaction(4, 3));
        refusedAlways(INDEX, "below", x -> x.transaction(-1, -1));
    }

    @Sentence(says = FIRST)
    static void receiverThatIsNoneAndNoKind() {
        refusedAlways(INDEX, "above", x -> x.receiver(3, 14));
        refusedAlways(INDEX, "below", x -> x.receiver(-1, -1));
    }

    @Sentence(says = FIRST)
    static void messageOfNoRankAndNoKind() {
        refusedAlways(INDEX, "above", x -> x.message(54, 5));
        refusedAlways(INDEX, "below", x -> x.message(-1, -1));
        refusedAfter(Relays::isNew, INDEX, "the first one", x -> x.message(0, 5));
    }

    @Sentence(says = FIRST)
    static void ifPassedForNoReceiverAndNoTicksAndNoKind() {
        refusedAlways(INDEX, "no ticks", x -> x.ifPassed(0, 3, 0));
        refusedAlways(INDEX, "no kind", x -> x.ifPassed(1, -1, 4));
        refusedAlways(INDEX, "neither", x -> x.ifPassed(100, 3, -1));
    }

    @Sentence(says = NOTHING)
    static void theWriteNumbersAreNotUsedUp() {
        OutboxRelay x = after(ExceptionBoundaryTest::hasFullTransaction);
        checks.thrown("full", STATE, () -> x.write(0, 0, 1));
        checks.thrown("no topic", ARGUMENT, () -> x.write(0, 4, 1));
        checks.thrown("no transaction", INDEX, () -> x.write(1, 0, 1));
        x.begin();
        same("the next one", x.write(1, 0, 1), 6);
    }

    @Sentence(says = NOTHING)
    static void aTransactionThatCannotBeCommittedStaysOpen() {
        OutboxRelay x = new OutboxRelay();
        commitMany(x, 60);
        obeyed(x, "b;w01=2");
        checks.thrown("commit", STATE, () -> x.commit(0));
        same("its sum", x.transaction(0, 2), 2);
        wantNothing(x);
        x.sweep();
        same("it is committed later", x.commit(0), 1);
        same("with the next commit number", x.row(0, 2), 60);
    }

    @Sentence(says = NOTHING)
    static void aBufferThatCannotBeObeyedStays() {
        OutboxRelay x = new OutboxRelay();
        type(x, "b;w00=");
        checks.thrown("obey", ARGUMENT, x::obey);
        same("no order is done", x.count(10), 0);
        x.append('5');
        same("it goes on", x.obey(), 2);
    }

    @Sentence(says = NOTHING)
    static void theOldestSavedStateStays() {
        OutboxRelay x = new OutboxRelay();
        told(6, i -> x.pass(1));
        checks.thrown("pass", ARGUMENT, () -> x.pass(100));
        checks.thrown("goBack", STATE, x::goBack);
        checks.thrown("set", INDEX, () -> x.set(7, 0));
        told(6, i -> x.undo());
        same("ticks", x.count(0), 0);
    }

    public static void main(String[] args) {
        Sentences.run(ExceptionBoundaryTest.class);
    }
}
