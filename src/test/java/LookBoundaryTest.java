import java.util.List;

/** Boundary cases of promises 18 to 22: what is told of rows, transactions, receivers, messages, and counted. */
public final class LookBoundaryTest extends Relays {

    private static final String WHY = "Returns the number; for 7: 0 if it would be swept; otherwise, by the lowest receiver"
        + " by whom it is not answered: 1 if the relay sent it no batch with this row so far, 2 if this row had its effect"
        + " on the receiver (but the answer did not come), 3 otherwise.";
    private static final String NONE_AT_PLACE = "Returns the number; NONE if there is no transaction at this place.";
    private static final String DUE_SUM = "Returns the number; for 12: the values of all rows that were committed so far,"
        + " swept ones too, with a topic that it wants now, and a number that is at most its mark, together.";
    private static final String NO_RANK = "Throws `IndexOutOfBoundsException` if there is no such rank";

    /** Sixty rows of topic 2. */
    private static void keepsSixty(OutboxRelay x) {
        for (int i = 0; i < 10; i++) {
            commitRows(x, 2, 1, 2, 1, 2, 1, 2, 1, 2, 1, 2, 99);
        }
    }

    /** As many messages on their way as there can be: three for each tick that two messages take. */
    private static OutboxRelay withAllMessages() {
        OutboxRelay x = relayWith(TICKS, 9, WAIT, 1, ROWS, 1);
        commitRows(x, 0, 1, 0, 1, 0, 1);
        x.pass(18);
        return x;
    }

    // Promise 18

    @Sentence(promise = 18, says = "- `rank`: 0 for the one with the least number, and so on")
    static void theFirstAndTheLastRank() {
        OutboxRelay x = after(LookBoundaryTest::keepsSixty);
        same("the first", x.row(0, 0), 0);
        same("the last", x.row(59, 0) * 100 + x.row(59, 4), 5999);
        refusedAfter(LookBoundaryTest::keepsSixty, INDEX, "behind the last", y -> y.row(60, 0));
        refusedAfter(LookBoundaryTest::keepsSixty, INDEX, "before the first", y -> y.row(-1, 0));
    }

    @Sentence(promise = 18, says = "- `rank`: 0 for the one with the least number, and so on")
    static void ranksByNumbersAndNotByCommits() {
        OutboxRelay x = relayWith(NUMBERS, 1);
        obeyed(x, "b;b;w00=1;w10=2;w00=3;c1;c0");
        same("numbers", ofRows(x, 0), List.of(0, 1, 2));
        same("commit numbers", ofRows(x, 2), List.of(1, 0, 2));
    }

    @Sentence(promise = 18, says = "- `rank`: 0 for the one with the least number, and so on")
    static void rowsComeBeforeBetweenAndBehindOthers() {
        OutboxRelay x = relayWith(NUMBERS, 1);
        obeyed(x, "b;b;b;w10=1;w00=1;w20=1;w10=1;w20=1;w00=1;w20=1;w10=1");
        x.commit(2);
        same("rows of one", ofRows(x, 0), List.of(2, 4, 6));
        x.commit(0);
        same("with those before and between", ofRows(x, 0), List.of(1, 2, 4, 5, 6));
        x.commit(1);
        same("with all", ofRows(x, 0), List.of(0, 1, 2, 3, 4, 5, 6, 7));
        same("commit numbers", ofRows(x, 2), List.of(5, 3, 0, 6, 1, 4, 2, 7));
    }

    @Sentence(promise = 18, says = "0: its number; 1: its write number; 2: its commit number; 3: its topic; 4: its value")
    static void theFirstKindsOfARow() {
        OutboxRelay x = relayWith(NUMBERS, 1);
        obeyed(x, "b;b;w12=3;w03=99;w00=0;c0;c1");
        same("rank 0", rowOf(x, 0).subList(0, 5), List.of(0, 0, 2, 2, 3));
        same("rank 1", rowOf(x, 1).subList(0, 5), List.of(1, 1, 0, 3, 99));
        same("rank 2", rowOf(x, 2).subList(0, 5), List.of(2, 2, 1, 0, 0));
    }

    @Sentence(promise = 18, says = "5: the receivers on whom it had its effect, as a mask")
    static void effectsOnNoneOneAndAll() {
        OutboxRelay x = new OutboxRelay();
        commitRows(x, 0, 1, 1, 1, 2, 1, 3, 1);
        x.want(0, 3);
        x.want(1, 5);
        x.want(2, 9);
        same("none", ofRows(x, 5), List.of(0, 0, 0, 0));
        x.pass(3);
        same("all, and each one", ofRows(x, 5), List.of(7, 1, 2, 4));
        wantNothing(x);
        same("had its effect", ofRows(x, 5), List.of(7, 1, 2, 4));
    }

    @Sentence(promise = 18, says = "6: the receivers by whom it is answered, as a mask")
    static void answeredByNoneOneAndAll() {
        OutboxRelay x = new OutboxRelay();
        commitRows(x, 0, 1, 1, 1, 2, 1, 3, 1);
        same("none", ofRows(x, 6), List.of(0, 0, 0, 0));
        x.want(0, 12);
        x.want(1, 10);
        x.want(2, 6);
        same("all, and each one", ofRows(x, 6), List.of(7, 1, 2, 4));
    }

    @Sentence(promise = 18, says = "7: why it stays")
    static void theFirstAndTheLastKindOfARow() {
        OutboxRelay x = after(Relays::isBusy);
        same("kind 0", x.row(1, 0), 1);
        same("kind 7", x.row(1, 7), 2);
        refusedBeside(0, 7, ARGUMENT, "what", (y, what) -> y.row(1, what));
    }

    @Sentence(promise = 18, says = WHY)
    static void whyZeroIfItWouldBeSwept() {
        OutboxRelay x = new OutboxRelay();
        commitRows(x, 0, 1, 0, 1, 0, 1, 0, 1);
        x.pass(5);
        same("rows 0 to 2 are answered", ofRows(x, 7).subList(0, 3), List.of(0, 0, 0));
        same("row 3 is not", x.row(3, 7) != 0, true);
        wantNothing(x);
        same("wanted by none", x.row(3, 7), 0);
        same("so many would be swept", x.sweep(), 4);
    }

    @Sentence(promise = 18, says = WHY)
    static void whyOneIfItWasNotSent() {
        OutboxRelay x = relayWith(ROWS, 1);
        commitRows(x, 0, 1, 0, 1);
        same("neither is sent", ofRows(x, 7), List.of(1, 1));
        x.pass(1);
        same("the first one is", ofRows(x, 7), List.of(3, 1));
    }

    @Sentence(promise = 18, says = WHY)
    static void whyOneIfItWasSentToAnotherReceiver() {
        OutboxRelay x = new OutboxRelay();
        commitRows(x, 0, 1);
        x.want(0, 0);
        x.pass(1);
        same("by receiver 1, to whom it was sent", x.row(0, 7), 3);
        x.want(0, 1);
        same("by receiver 0, to whom it was not", x.row(0, 7), 1);
    }

    @Sentence(promise = 18, says = WHY)
    static void whyTwoBehindItsEffect() {
        OutboxRelay x = loneWith();
        commitRows(x, 0, 1);
        x.pass(2);
        same("in the tick before", x.row(0, 7), 3);
        x.pass(1);
        same("with its effect", x.row(0, 7), 2);
        x.pass(1);
        same("until the answer comes", x.row(0, 7), 2);
        x.pass(1);
        same("behind the answer", x.row(0, 7), 0);
    }

    @Sentence(promise = 18, says = WHY)
    static void whyThreeIfItsBatchIsLost() {
        OutboxRelay x = loneWith();
        commitRows(x, 0, 1);
        x.pass(1);
        x.lose();
        x.pass(2);
        same("sent, without an effect", x.row(0, 7), 3);
    }

    @Sentence(promise = 18, says = WHY)
    static void whyByTheLowestReceiver() {
        OutboxRelay x = new OutboxRelay();
        commitRows(x, 0, 1);
        x.want(1, 0);
        x.pass(1);
        x.lose();
        x.pass(2);
        same("by 0, whose batch is lost", x.row(0, 7), 3);
        x.want(0, 0);
        same("by 2, which had its effect", x.row(0, 7), 2);
        x.want(1, 1);
        same("by 1, to whom it was not sent", x.row(0, 7), 1);
    }

    @Sentence(promise = 18, says = NO_RANK)
    static void noRowOfThisRank() {
        refusedAfter(Relays::isNew, INDEX, "without rows", x -> x.row(0, 0));
        refusedWhenBusy(INDEX, "behind two", x -> x.row(2, 0));
        refusedAfter(x -> {
            wantNothing(x);
            obeyed(x, "b;w00=1;c0;s");
        }, INDEX, "a swept one", x -> x.row(0, 0));
    }

    @Sentence(promise = 18, says = "Throws `IllegalArgumentException` if what is not 0 to 7")
    static void noSuchKindOfARow() {
        refusedWhenBusy(ARGUMENT, "8", x -> x.row(0, 8));
        refusedWhenBusy(ARGUMENT, "-1", x -> x.row(0, -1));
    }

    // Promise 19

    @Sentence(promise = 19, says = "- `place`: 0 to 3")
    static void theFirstAndTheLastPlace() {
        OutboxRelay x = after(y -> obeyed(y, "b;b;b;b;w00=1;w30=1;w30=1"));
        same("rows", told(4, place -> x.transaction(place, 0)), List.of(1, 0, 0, 2));
        refusedBeside(0, 3, INDEX, "place", (y, place) -> y.transaction(place, 0));
    }

    @Sentence(promise = 19, says = "0: its rows, how many; 1: the write number of its first row, NONE without rows;"
        + " 2: the sum of the values of its rows")
    static void noRowsOneRowAndSix() {
        OutboxRelay x = new OutboxRelay();
        obeyed(x, "b;b");
        same("none", told(3, what -> x.transaction(1, what)), List.of(0, -1, 0));
        obeyed(x, "w00=1;w10=99");
        same("one", told(3, what -> x.transaction(1, what)), List.of(1, 1, 99));
        obeyed(x, "w10=99;w10=99;w10=99;w10=99;w10=0");
        same("six", told(3, what -> x.transaction(1, what)), List.of(6, 1, 495));
        same("the other one", told(3, what -> x.transaction(0, what)), List.of(1, 0, 1));
    }

    @Sentence(promise = 19, says = "- `what`: 0: its rows, how many")
    static void theFirstAndTheLastKindOfATransaction() {
        OutboxRelay x = after(Relays::isBusy);
        same("kind 0", x.transaction(1, 0), 1);
        same("kind 2", x.transaction(1, 2), 7);
        refusedBeside(0, 2, ARGUMENT, "what", (y, what) -> y.transaction(1, what));
    }

    @Sentence(promise = 19, says = NONE_AT_PLACE)
    static void noneWithoutATransaction() {
        OutboxRelay x = new OutboxRelay();
        obeyed(x, "b;b;w00=1;w10=1;d0;c1");
        for (int place = 0; place < 4; place++) {
            int at = place;
            same("at " + place, told(3, what -> x.transaction(at, what)), List.of(-1, -1, -1));
        }
    }

    @Sentence(promise = 19, says = "Throws `IndexOutOfBoundsException` if there is no such place")
    static void noSuchPlace() {
        refusedAlways(INDEX, "4", x -> x.transaction(4, 2));
        refusedAlways(INDEX, "-1", x -> x.transaction(-1, 0));
    }

    @Sentence(promise = 19, says = "Throws `IllegalArgumentException` if what is not 0 to 2")
    static void noSuchKindOfATransaction() {
        refusedAlways(ARGUMENT, "3, where there may be none", x -> x.transaction(3, 3));
        refusedAlways(ARGUMENT, "-1", x -> x.transaction(0, -1));
    }

    // Promise 20

    @Sentence(promise = 20, says = "- `receiver`: 0 to 2")
    static void theFirstAndTheLastReceiver() {
        OutboxRelay x = new OutboxRelay();
        x.want(0, 1);
        x.want(2, 2);
        same("topics", ofReceivers(x, 0), List.of(1, 15, 2));
        refusedBeside(0, 2, INDEX, "receiver", (y, receiver) -> y.receiver(receiver, 13));
    }

    @Sentence(promise = 20, says = "0: the topics that it wants; 1: its mark; 2: numbers in its memory, how many")
    static void allKindsOfAReceiverAtFirst() {
        OutboxRelay x = new OutboxRelay();
        for (int r = 0; r < 3; r++) {
            same("receiver " + r, receiverOf(x, r), List.of(15, -1, 0, 0, 0, 0, 0, 0, -1, 0, 0, 0, 0, 0));
        }
    }

    @Sentence(promise = 20, says = "3: its effects so far; 4: its sum; 5: repeats so far; 6: second effects so far;"
        + " 7: effects out of order so far")
    static void whatIsCountedOfOneReceiver() {
        OutboxRelay x = loneWith(BY_MARK, 0, MEMORY, 1, WAIT, 1);
        commitRows(x, 0, 3, 0, 4);
        x.pass(3);
        x.set(MEMORY, 2);
        x.pass(1);
        x.pass(1);
        same("receiver 0", receiverOf(x, 0).subList(2, 8), List.of(2, 3, 10, 3, 1, 1));
        same("receiver 1", receiverOf(x, 1).subList(2, 8), List.of(0, 0, 0, 0, 0, 0));
    }

    @Sentence(promise = 20, says = "8: its answer mark at the relay")
    static void theAnswerMarkIsNoneUntilItsOwnAnswerComes() {
        OutboxRelay x = relayWith(ROWS, 8);
        commitRows(x, 0, 1, 1, 1);
        x.want(1, 1);
        x.want(2, 0);
        x.pass(4);
        same("before, when the marks are", List.of(x.receiver(0, 1), x.receiver(1, 1)), List.of(1, 0));
        same("answer marks", ofReceivers(x, 8), List.of(-1, -1, -1));
        x.pass(1);
        same("behind the answers", ofReceivers(x, 8), List.of(1, 0, -1));
    }

    @Sentence(promise = 20, says = "9: 1 if the relay waits for it, otherwise 0; 10: the rows for it, how many")
    static void waitingAndNotAndRowsForIt() {
        OutboxRelay x = loneWith();
        commitRows(x, 0, 1, 0, 1, 0, 1, 0, 1);
        same("before", List.of(x.receiver(0, 9), x.receiver(0, 10)), List.of(0, 4));
        x.pass(1);
        same("sent", List.of(x.receiver(0, 9), x.receiver(0, 10)), List.of(1, 4));
        x.pass(8);
        same("answered", List.of(x.receiver(0, 9), x.receiver(0, 10)), List.of(0, 0));
    }

    @Sentence(promise = 20, says = "11: rows that are lost for it so far")
    static void lostRowsOfThoseWhoWantThem() {
        OutboxRelay x = relayWith(NUMBERS, 1);
        obeyed(x, "b;b;w00=1;w01=1;w10=2;c1;t5;c0");
        x.want(1, 13);
        x.want(2, 12);
        x.sweep();
        same("both, one, none", ofReceivers(x, 11), List.of(2, 1, 0));
    }

    @Sentence(promise = 20, says = "13: messages on their way from it or to it")
    static void messagesOfAReceiver() {
        OutboxRelay x = relayWith(WAIT, 1);
        x.want(1, 0);
        commitRows(x, 0, 1);
        x.pass(1);
        same("a batch to 0 and to 2", ofReceivers(x, 13), List.of(1, 0, 1));
        x.pass(2);
        same("an answer from them, and two batches", ofReceivers(x, 13), List.of(3, 0, 3));
        x.pass(99);
        same("none", ofReceivers(x, 13), List.of(0, 0, 0));
    }

    @Sentence(promise = 20, says = "13: messages on their way from it or to it")
    static void theFirstAndTheLastKindOfAReceiver() {
        OutboxRelay x = withAllMessages();
        same("kind 0", x.receiver(2, 0), 15);
        same("kind 13, the most", x.receiver(2, 13), 18);
        refusedBeside(0, 13, ARGUMENT, "what", (y, what) -> y.receiver(2, what));
    }

    @Sentence(promise = 20, says = "12: the sum that it should have")
    static void theSumThatItShouldHaveIsItsSumIfNoRowIsMissedOrDoneTwice() {
        OutboxRelay x = relayWith(LOSS, 3, WAIT, 1);
        commitRows(x, 0, 99, 1, 50, 2, 25, 3, 1);
        x.want(1, 5);
        x.want(2, 0);
        for (int tick = 0; tick < 9; tick++) {
            same("sums behind " + tick, ofReceivers(x, 12), ofReceivers(x, 4));
            x.pass(1);
        }
        same("at last", ofReceivers(x, 12), List.of(175, 124, 0));
    }

    @Sentence(promise = 20, says = DUE_SUM)
    static void theSumThatItShouldHaveGoesToItsMark() {
        OutboxRelay x = loneWith();
        commitRows(x, 0, 1, 0, 2, 0, 4, 0, 8);
        same("none without a mark", x.receiver(0, 12), 0);
        x.pass(3);
        same("mark", x.receiver(0, 1), 2);
        same("rows 0 to 2, and not the one above", x.receiver(0, 12), 7);
        same("none for the others", x.receiver(1, 12) + x.receiver(2, 12), 0);
    }

    @Sentence(promise = 20, says = DUE_SUM)
    static void theSumThatItShouldHaveIsOfAllThatWasCommitted() {
        OutboxRelay x = loneWith(ROWS, 8);
        commitRows(x, 0, 1, 1, 2, 2, 4, 3, 8);
        x.pass(5);
        same("all", x.receiver(0, 12), 15);
        x.sweep();
        same("swept ones too", x.receiver(0, 12), 15);
        x.want(0, 9);
        same("of the topics that it wants now, the first and the last", x.receiver(0, 12), 9);
        x.want(0, 0);
        same("of no topics", x.receiver(0, 12), 0);
    }

    @Sentence(promise = 20, says = DUE_SUM)
    static void theSumThatItShouldHaveIsOfSkippedRowsToo() {
        OutboxRelay x = relayWith(NUMBERS, 1);
        obeyed(x, "b;b;w00=1;w10=2;w00=4;c1;t5;c0");
        same("rows 0 and 1", x.receiver(0, 12), 3);
        same("its sum", x.receiver(0, 4), 2);
    }

    @Sentence(promise = 20, says = "Throws `IndexOutOfBoundsException` if there is no such receiver")
    static void noSuchReceiver() {
        refusedAlways(INDEX, "3", x -> x.receiver(3, 0));
        refusedAlways(INDEX, "-1", x -> x.receiver(-1, 13));
    }

    @Sentence(promise = 20, says = "Throws `IllegalArgumentException` if what is not 0 to 13")
    static void noSuchKindOfAReceiver() {
        refusedAlways(ARGUMENT, "14", x -> x.receiver(0, 14));
        refusedAlways(ARGUMENT, "-1", x -> x.receiver(2, -1));
    }

    // Promise 21

    @Sentence(promise = 21, says = "- `rank`: 0 for the one that comes first, of several the one that was sent first, and so"
        + " on")
    static void ranksByComingAndThenBySending() {
        OutboxRelay x = relayWith(TICKS, 4, WAIT, 1);
        x.want(2, 0);
        commitRows(x, 0, 1);
        x.pass(1);
        x.set(TICKS, 2);
        x.pass(1);
        x.set(TICKS, 1);
        x.pass(1);
        same("in ticks", ofMessages(x, 2), List.of(1, 1, 1, 1, 2, 2));
        same("to receivers", ofMessages(x, 1), List.of(0, 1, 0, 1, 0, 1));
        x.lose();
        x.lose();
        x.pass(1);
        same("the third ones, sent last, came first but for two", x.receiver(0, 3) * 10 + x.receiver(1, 3), 11);
    }

    @Sentence(promise = 21, says = "- `rank`: 0 for the one that comes first, of several the one that was sent first, and so"
        + " on")
    static void theFirstAndTheLastOfAsManyAsThereCanBe() {
        OutboxRelay x = withAllMessages();
        same("on their way", x.count(7), 54);
        same("the first", messageOf(x, 0), List.of(1, 0, 1, 0, 0));
        same("the last", messageOf(x, 53), List.of(0, 2, 9, 1, 0));
        checks.thrown("behind the last", INDEX, () -> x.message(54, 0));
    }

    @Sentence(promise = 21, says = "0: 0 a batch, 1 an answer; 1: its receiver (to whom it goes, or from whom it comes)")
    static void batchesAndAnswersOfTheFirstAndTheLastReceiver() {
        OutboxRelay x = new OutboxRelay();
        commitRows(x, 0, 1);
        x.pass(1);
        same("batches", ofMessages(x, 0), List.of(0, 0, 0));
        same("to receivers", ofMessages(x, 1), List.of(0, 1, 2));
        x.pass(2);
        same("answers", ofMessages(x, 0), List.of(1, 1, 1));
        same("from receivers", ofMessages(x, 1), List.of(0, 1, 2));
    }

    @Sentence(promise = 21, says = "2: in how many ticks it comes")
    static void inOneTickAtLeastAndNineAtMost() {
        OutboxRelay x = loneWith(TICKS, 9, WAIT, 20);
        commitRows(x, 0, 1);
        x.pass(1);
        List<Integer> ticks = told(9, i -> {
            int in = x.message(0, 2);
            x.pass(1);
            return in;
        });
        same("ticks", ticks, List.of(9, 8, 7, 6, 5, 4, 3, 2, 1));
        same("then it is the answer", messageOf(x, 0), List.of(1, 0, 9, 0, 0));
    }

    @Sentence(promise = 21, says = "3: its rows, how many, 0 for an answer; 4: the greatest number in it, or the number of"
        + " the answer")
    static void rowsOfOneBatchAtLeastAndEightAtMost() {
        for (int rows : new int[] {1, 8}) {
            OutboxRelay x = loneWith(ROWS, rows);
            commitMany(x, 10);
            x.pass(1);
            same("a batch of " + rows, messageOf(x, 0), List.of(0, 0, 2, rows, rows - 1));
            x.pass(2);
            same("its answer", messageOf(x, 0), List.of(1, 0, 2, 0, rows - 1));
        }
    }

    @Sentence(promise = 21, says = "4: the greatest number in it, or the number of the answer")
    static void theFirstAndTheLastKindOfAMessage() {
        OutboxRelay x = after(Relays::isBusy);
        same("kind 0", x.message(0, 0), 1);
        same("kind 4", x.message(0, 4), 1);
        refusedBeside(0, 4, ARGUMENT, "what", (y, what) -> y.message(0, what));
    }

    @Sentence(promise = 21, says = "Returns the number.")
    static void messageReturnsAllKindsOfTheFirstAndTheLast() {
        OutboxRelay x = relayWith(WAIT, 2);
        commitRows(x, 0, 1, 0, 1);
        x.pass(3);
        same("an answer", messageOf(x, 0), List.of(1, 0, 2, 0, 1));
        same("a batch", messageOf(x, 5), List.of(0, 2, 2, 2, 1));
    }

    @Sentence(promise = 21, says = NO_RANK)
    static void noMessageOfThisRank() {
        refusedAfter(Relays::isNew, INDEX, "without messages", x -> x.message(0, 0));
        refusedAfter(Relays::isBusy, INDEX, "behind two", x -> x.message(2, 0));
        refusedAlways(INDEX, "-1", x -> x.message(-1, 0));
    }

    @Sentence(promise = 21, says = "Throws `IllegalArgumentException` if what is not 0 to 4")
    static void noSuchKindOfAMessage() {
        refusedWhenBusy(ARGUMENT, "5", x -> x.message(1, 5));
        refusedWhenBusy(ARGUMENT, "-1", x -> x.message(1, -1));
    }

    // Promise 22

    @Sentence(promise = 22, says = "0: ticks so far; 1: rows written so far; 2: rows committed so far; 3: rows kept;"
        + " 4: rows swept so far")
    static void allCountsAtFirst() {
        OutboxRelay x = new OutboxRelay();
        same("counts", told(12, x::count), List.of(0, 0, 0, 0, 0, 0, 0, 0, 0, 0, 0, 0));
    }

    @Sentence(promise = 22, says = "6: those of them that got lost (by setting 4, or by lose())")
    static void lostByTheSettingAndByTheCall() {
        OutboxRelay x = relayWith(LOSS, 3);
        commitRows(x, 0, 1);
        x.pass(1);
        same("sent, lost, on their way", told(3, i -> x.count(5 + i)), List.of(3, 1, 2));
        x.lose();
        same("and one more", told(3, i -> x.count(5 + i)), List.of(3, 2, 1));
    }

    @Sentence(promise = 22, says = "5: messages sent so far")
    static void batchesAndAnswersAreCounted() {
        OutboxRelay x = new OutboxRelay();
        commitRows(x, 0, 1);
        x.pass(1);
        same("messages, batches, answers", List.of(x.count(5), x.count(8), x.count(9)), List.of(3, 3, 0));
        x.pass(2);
        same("with answers sent", List.of(x.count(5), x.count(8), x.count(9)), List.of(6, 3, 0));
        x.lose();
        x.pass(2);
        same("two of them came", List.of(x.count(5), x.count(8), x.count(9)), List.of(6, 3, 2));
    }

    @Sentence(promise = 22, says = "7: messages on their way; 8: batches sent so far; 9: answers that came so far")
    static void noMessagesOnTheirWayAndAsManyAsThereCanBe() {
        OutboxRelay x = withAllMessages();
        same("on their way, batches, answers", told(3, i -> x.count(7 + i)), List.of(54, 54, 0));
        x.lose();
        x.pass(1);
        same("two of three answers came", told(3, i -> x.count(7 + i)), List.of(54, 57, 2));
        wantNothing(x);
        x.pass(18);
        same("and all others", told(3, i -> x.count(7 + i)), List.of(0, 57, 56));
    }

    @Sentence(promise = 22, says = "10: open transactions; 11: saved states")
    static void openTransactionsAndSavedStates() {
        OutboxRelay x = new OutboxRelay();
        told(4, i -> x.begin());
        same("as many as there are places", List.of(x.count(10), x.count(11)), List.of(4, 4));
        x.commit(0);
        x.drop(3);
        x.want(0, 0);
        same("two, and as many as are saved", List.of(x.count(10), x.count(11)), List.of(2, 6));
    }

    @Sentence(promise = 22, says = "- `what`: 0: ticks so far")
    static void theFirstAndTheLastCount() {
        OutboxRelay x = after(Relays::isBusyLong);
        same("kind 0", x.count(0), 5);
        same("kind 11", x.count(11), 6);
        refusedBeside(0, 11, ARGUMENT, "what", OutboxRelay::count);
    }

    @Sentence(promise = 22, says = "Returns the number.")
    static void countReturnsAllKinds() {
        same("counts", told(12, after(Relays::isBusy)::count), List.of(3, 4, 2, 2, 0, 6, 1, 2, 3, 0, 2, 4));
        same("later", told(12, after(Relays::isBusyLong)::count), List.of(5, 4, 2, 2, 0, 9, 1, 3, 6, 2, 2, 6));
    }

    @Sentence(promise = 22, says = "Throws `IllegalArgumentException` if what is not 0 to 11")
    static void noSuchCount() {
        refusedAlways(ARGUMENT, "12", x -> x.count(12));
        refusedAlways(ARGUMENT, "-1", x -> x.count(-1));
    }

    public static void main(String[] args) {
        Sentences.run(LookBoundaryTest.class);
    }
}
