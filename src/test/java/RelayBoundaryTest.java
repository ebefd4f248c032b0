import java.util.ArrayList;
import java.util.List;

/** Boundary cases of the relay, its messages, ticks and sweeping, and of promises 7 to 9. */
public final class RelayBoundaryTest extends Relays {

    private static final String ROWS_FOR = "The rows for a receiver are the kept rows with a number above its answer mark,"
        + " and with a topic that it wants.";
    private static final String WAITS = "The relay waits for a receiver from the tick in which it sends it a batch, until"
        + " an answer of this receiver comes with a number that is not below the greatest one in the latest batch that it"
        + " sent to it.";
    private static final String MARK_RISES = "When an answer comes, the answer mark becomes its number, if that is"
        + " greater.";
    private static final String COMES = "It comes setting 1 ticks (as it is then) behind the tick in which it is sent.";
    private static final String LOST = "If setting 4 is not 0, and the number of messages that were sent so far, this one"
        + " counted, is a multiple of it, it gets lost: it never comes.";
    private static final String IN_ORDER = "All messages that are due come, in the order in which they were sent.";
    private static final String IN_THIS_ORDER = "In each tick that passes, in this order: 1. All messages that are due"
        + " come, in the order in which they were sent. 2. For the receivers 0, 1 and 2, one after the other";
    private static final String ONE_BY_ONE = "For the receivers 0, 1 and 2, one after the other";
    private static final String AGAIN = "if the relay does not wait for the receiver, or sent the latest batch to it"
        + " setting 3 or more ticks ago, and there are rows for it, the relay sends it a batch";
    private static final String LEAST = "the rows for it with the least numbers, at most setting 2.";
    private static final String ANSWERED = "A row is answered by a receiver if the receiver does not want its topic, or if"
        + " its number is at most the answer mark of the receiver.";
    private static final String SWEPT = "To sweep means: all kept rows that are answered by all receivers are swept.";
    private static final String LOST_ROW = "A row that is swept is lost for a receiver who wants its topic and on whom it"
        + " had no effect.";
    private static final String LOSE = "Loses the message that would come next: of those on their way the one that comes"
        + " first, of several the one that was sent first. Undoable.";

    /** Row 1 is answered by all when row 0, which was written before it, is committed. */
    private static OutboxRelay skippingRowZero() {
        OutboxRelay x = relayWith(NUMBERS, 1);
        obeyed(x, "b;b;w00=1;w10=2;w00=4;c1;t5;c0");
        return x;
    }

    // Terms: the relay

    @Sentence(says = "The relay has an answer mark for each receiver, at first NONE.")
    static void answerMarksAtFirst() {
        same("answer marks", ofReceivers(new OutboxRelay(), 8), List.of(-1, -1, -1));
    }

    @Sentence(says = ROWS_FOR)
    static void theLeastNumberIsForThemAtFirst() {
        OutboxRelay x = new OutboxRelay();
        same("without rows", ofReceivers(x, 10), List.of(0, 0, 0));
        commitRows(x, 2, 1);
        same("row 0", ofReceivers(x, 10), List.of(1, 1, 1));
    }

    @Sentence(says = ROWS_FOR)
    static void theNumberAboveTheAnswerMarkIsForItAndTheSameIsNot() {
        OutboxRelay x = new OutboxRelay();
        commitRows(x, 0, 1, 0, 1, 0, 1, 0, 1);
        x.pass(4);
        same("before an answer", x.receiver(0, 10), 4);
        x.pass(1);
        same("answer mark", x.receiver(0, 8), 2);
        same("row 3 alone", x.receiver(0, 10), 1);
        same("row 2 is answered, row 3 is not", ofRows(x, 6), List.of(7, 7, 7, 0));
    }

    @Sentence(says = ROWS_FOR)
    static void rowsOfOtherTopicsAndSweptRowsAreNotForIt() {
        OutboxRelay x = loneWith();
        commitRows(x, 0, 1, 1, 1, 3, 1);
        x.want(0, 9);
        same("topics 0 and 3", x.receiver(0, 10), 2);
        x.sweep();
        x.want(0, 15);
        same("without the one that was swept", x.receiver(0, 10), 2);
    }

    @Sentence(says = "(So a row can be skipped that is committed when the answer mark is past its write number.)")
    static void aRowIsSkipped() {
        OutboxRelay x = skippingRowZero();
        same("row 2 alone is for them", ofReceivers(x, 10), List.of(1, 1, 1));
        same("effects", x.pass(99), 3);
        same("sums, without row 0", ofReceivers(x, 4), List.of(6, 6, 6));
    }

    @Sentence(says = WAITS)
    static void waitsFromTheTickOfSending() {
        OutboxRelay x = new OutboxRelay();
        x.want(1, 0);
        x.pass(1);
        same("without rows", ofReceivers(x, 9), List.of(0, 0, 0));
        commitRows(x, 0, 1);
        same("before the tick", ofReceivers(x, 9), List.of(0, 0, 0));
        x.pass(1);
        same("from this tick", ofReceivers(x, 9), List.of(1, 0, 1));
    }

    @Sentence(says = WAITS)
    static void theGreatestNumberEndsTheWait() {
        OutboxRelay x = new OutboxRelay();
        commitRows(x, 0, 1, 0, 1, 0, 1);
        x.pass(4);
        same("before the answers", ofReceivers(x, 9), List.of(1, 1, 1));
        x.pass(1);
        same("behind them", ofReceivers(x, 9), List.of(0, 0, 0));
    }

    @Sentence(says = WAITS)
    static void theNumberBelowItDoesNot() {
        OutboxRelay x = loneWith(WAIT, 1);
        commitRows(x, 0, 1);
        x.pass(1);
        commitRows(x, 0, 1);
        x.pass(1);
        x.set(WAIT, 20);
        x.pass(3);
        same("the answer of row 0 came", x.receiver(0, 8), 0);
        same("row 1 is waited for", x.receiver(0, 9), 1);
        x.pass(1);
        same("and no more", x.receiver(0, 9), 0);
        same("batches", x.count(8), 2);
    }

    @Sentence(says = WAITS)
    static void theNumberAboveItDoes() {
        OutboxRelay x = loneWith(WAIT, 1);
        commitRows(x, 0, 1, 1, 1);
        x.pass(1);
        x.want(0, 1);
        x.pass(1);
        x.set(WAIT, 20);
        same("the latest batch is of row 0", x.message(1, 4), 0);
        x.pass(2);
        same("before the answer of row 1", x.receiver(0, 9), 1);
        x.pass(1);
        same("behind it", x.receiver(0, 9), 0);
        same("the answer of row 0 is on its way", messageOf(x, 0), List.of(1, 0, 1, 0, 0));
    }

    @Sentence(says = WAITS)
    static void anAnswerOfAnotherReceiverDoesNot() {
        OutboxRelay x = new OutboxRelay();
        commitRows(x, 0, 1);
        x.pass(3);
        x.lose();
        x.pass(2);
        same("for receiver 0 alone", ofReceivers(x, 9), List.of(1, 0, 0));
        same("answer marks", ofReceivers(x, 8), List.of(-1, 0, 0));
    }

    @Sentence(says = MARK_RISES)
    static void theAnswerMarkRisesFromNoneToZeroAndOn() {
        OutboxRelay x = loneWith(ROWS, 1);
        commitRows(x, 0, 1, 0, 1);
        x.pass(5);
        same("behind the first answer", x.receiver(0, 8), 0);
        x.pass(4);
        same("behind the second", x.receiver(0, 8), 1);
    }

    @Sentence(says = MARK_RISES)
    static void theAnswerMarkStaysBehindALesserNumber() {
        OutboxRelay x = loneWith(TICKS, 9, WAIT, 1);
        commitRows(x, 0, 1);
        x.pass(1);
        x.set(TICKS, 1);
        commitRows(x, 0, 1);
        x.pass(1);
        x.set(WAIT, 20);
        x.pass(2);
        same("the answer of both came", x.receiver(0, 8), 1);
        x.pass(6);
        same("that of row 0 is on its way", messageOf(x, 0), List.of(1, 0, 1, 0, 0));
        x.pass(1);
        same("it came", x.count(7) * 10 + x.count(9), 2);
        same("the answer mark", x.receiver(0, 8), 1);
    }

    // Terms: messages

    @Sentence(says = "A message is a batch or an answer.")
    static void messagesAreBatchesAndThenAnswersAndThenNone() {
        OutboxRelay x = loneWith();
        commitRows(x, 0, 1);
        List<List<Integer>> kinds = new ArrayList<>();
        for (int tick = 1; tick <= 6; tick++) {
            x.pass(1);
            kinds.add(ofMessages(x, 0));
        }
        same("by the tick", kinds, List.of(List.of(0), List.of(0), List.of(1), List.of(1), List.of(), List.of()));
        same("sent, batches, answers that came", List.of(x.count(5), x.count(8), x.count(9)), List.of(2, 1, 1));
    }

    @Sentence(says = COMES)
    static void theLeastAndTheMostTicksOfAMessage() {
        for (int ticks : new int[] {1, 2, 9}) {
            OutboxRelay x = loneWith(TICKS, ticks, WAIT, 20);
            commitRows(x, 0, 1);
            x.pass(1);
            same("in " + ticks, x.message(0, 2), ticks);
            if (ticks > 1) {
                same("not before " + ticks, x.pass(ticks - 1), 0);
            }
            same("it is there", x.pass(1), 1);
            same("and its answer comes in " + ticks, messageOf(x, 0), List.of(1, 0, ticks, 0, 0));
        }
    }

    @Sentence(says = COMES)
    static void theTicksAsTheyWereThen() {
        OutboxRelay x = loneWith(TICKS, 9, WAIT, 20);
        commitRows(x, 0, 1);
        x.pass(1);
        x.set(TICKS, 1);
        same("not sooner", x.pass(8), 0);
        same("nine ticks behind", x.pass(1), 1);
        same("its answer by the setting of this tick", x.message(0, 2), 1);
    }

    @Sentence(says = LOST)
    static void noneGetsLostWithZero() {
        OutboxRelay x = loneWith(LOSS, 0, TICKS, 9, WAIT, 1);
        commitRows(x, 0, 1);
        x.pass(30);
        same("sent, lost", List.of(x.count(5), x.count(6)), List.of(36, 0));
    }

    @Sentence(says = LOST)
    static void everySecondGetsLost() {
        OutboxRelay x = loneWith(LOSS, 2, TICKS, 9, WAIT, 1);
        commitRows(x, 0, 1);
        List<Integer> lost = told(4, i -> x.pass(1) + x.count(6));
        same("lost by the tick", lost, List.of(0, 1, 1, 2));
        same("on their way", ofMessages(x, 2), List.of(6, 8));
    }

    @Sentence(says = LOST)
    static void everyNinthGetsLost() {
        OutboxRelay x = loneWith(LOSS, 9, TICKS, 9, WAIT, 1);
        commitRows(x, 0, 1);
        x.pass(8);
        same("eight", List.of(x.count(5), x.count(6), x.count(7)), List.of(8, 0, 8));
        x.pass(1);
        same("the ninth", List.of(x.count(5), x.count(6), x.count(7)), List.of(9, 1, 8));
        x.pass(1);
        same("an answer is the tenth", List.of(x.count(5), x.count(6), x.count(7)), List.of(11, 1, 9));
    }

    @Sentence(says = LOST)
    static void thoseAreCountedThatWereSentBefore() {
        OutboxRelay x = loneWith(TICKS, 9, WAIT, 1);
        commitRows(x, 0, 1);
        x.pass(2);
        x.set(LOSS, 3);
        x.pass(1);
        same("the third of all", x.count(6), 1);
    }

    @Sentence(says = LOST)
    static void answersGetLostToo() {
        OutboxRelay x = loneWith(LOSS, 2);
        commitRows(x, 0, 1);
        same("its batch came", x.pass(3), 1);
        same("its answer is lost", List.of(x.count(5), x.count(6), x.count(7)), List.of(2, 1, 0));
        x.pass(3);
        same("it never came", x.count(9), 0);
    }

    @Sentence(says = LOST)
    static void aLostBatchWasSentAndIsWaitedFor() {
        OutboxRelay x = loneWith(LOSS, 2, TICKS, 9, WAIT, 3, ROWS, 1);
        commitRows(x, 0, 1, 1, 2);
        x.pass(1);
        x.want(0, 2);
        x.pass(3);
        same("two batches, one of them lost", told(4, i -> x.count(5 + i)), List.of(2, 1, 1, 2));
        same("of one row each", x.meanBatch(), 1.0f);
        same("the row of the lost one was sent", x.row(1, 7), 3);
        x.pass(2);
        same("it is waited for", List.of(x.receiver(0, 9), x.count(8)), List.of(1, 2));
        x.pass(1);
        same("and sent again", x.count(8), 3);
    }

    // Terms: a tick

    @Sentence(says = IN_ORDER)
    static void twoThatAreDueInOneTickComeByTheOrderOfSending() {
        OutboxRelay x = loneWith(TICKS, 2, WAIT, 1);
        commitRows(x, 0, 1);
        x.pass(1);
        commitRows(x, 0, 1);
        x.set(TICKS, 1);
        x.pass(1);
        x.set(WAIT, 20);
        same("both are due in the next", ofMessages(x, 2), List.of(1, 1));
        same("rows 0 and 1 have effects", x.pass(1), 2);
        same("row 0 by the first one, and a repeat by the second", x.receiver(0, 5), 1);
        same("the answers", ofMessages(x, 4), List.of(0, 1));
    }

    @Sentence(says = IN_THIS_ORDER)
    static void answersAreSentAheadOfTheBatchesOfTheTick() {
        OutboxRelay x = relayWith(TICKS, 1, WAIT, 1);
        commitRows(x, 0, 1);
        x.pass(2);
        same("answers, then batches", ofMessages(x, 0), List.of(1, 1, 1, 0, 0, 0));
        same("of the receivers", ofMessages(x, 1), List.of(0, 1, 2, 0, 1, 2));
    }

    @Sentence(says = IN_THIS_ORDER)
    static void messagesComeBeforeBatchesAreSent() {
        OutboxRelay x = loneWith(ROWS, 1);
        commitRows(x, 0, 1, 0, 1);
        x.pass(4);
        same("batches before the answer", x.count(8), 1);
        x.pass(1);
        same("the next one goes in the tick of the answer", x.count(8), 2);
        same("with the next row", messageOf(x, 0), List.of(0, 0, 2, 1, 1));
    }

    @Sentence(says = ONE_BY_ONE)
    static void theFirstReceiverIsSentItsBatchFirst() {
        OutboxRelay x = relayWith(LOSS, 3);
        commitRows(x, 0, 1);
        x.pass(1);
        same("the third batch is lost", ofMessages(x, 1), List.of(0, 1));
    }

    @Sentence(says = AGAIN)
    static void sentAgainExactlyAsManyTicksLater() {
        for (int wait : new int[] {1, 2, 20}) {
            OutboxRelay x = loneWith(WAIT, wait);
            commitRows(x, 0, 1);
            x.pass(1);
            x.lose();
            if (wait > 1) {
                x.pass(wait - 1);
            }
            same("not before " + wait, x.count(8), 1);
            x.pass(1);
            same("at " + wait, x.count(8), 2);
        }
    }

    @Sentence(says = AGAIN)
    static void byTheSettingAsItIsNow() {
        OutboxRelay x = loneWith(WAIT, 20);
        commitRows(x, 0, 1);
        x.pass(1);
        x.lose();
        x.pass(9);
        x.set(WAIT, 10);
        x.pass(1);
        same("ten ticks behind", x.count(8), 2);
        x.lose();
        x.pass(9);
        same("the latest batch counts", x.count(8), 2);
    }

    @Sentence(says = AGAIN)
    static void noBatchWithoutRows() {
        OutboxRelay x = new OutboxRelay();
        same("no effects", x.pass(99), 0);
        same("nothing is sent", x.count(5), 0);
        commitRows(x, 1, 1);
        wantNothing(x);
        x.pass(99);
        same("nor without a row that is wanted", x.count(5), 0);
    }

    @Sentence(says = AGAIN)
    static void noBatchWithoutRowsAlsoIfItWaits() {
        OutboxRelay x = loneWith();
        commitRows(x, 0, 1);
        x.pass(1);
        x.lose();
        x.want(0, 14);
        x.pass(99);
        same("batches", x.count(8), 1);
        same("it waits", x.receiver(0, 9), 1);
    }

    @Sentence(says = LEAST)
    static void atMostAsManyRowsAsTheSetting() {
        for (int rows : new int[] {1, 3, 8}) {
            OutboxRelay x = loneWith(ROWS, rows);
            commitMany(x, 9);
            x.pass(1);
            same("rows, and the greatest of the least " + rows, messageOf(x, 0), List.of(0, 0, 2, rows, rows - 1));
        }
    }

    @Sentence(says = LEAST)
    static void asManyAsThereAreIfTheyAreFewer() {
        for (int rows : new int[] {1, 7, 8}) {
            OutboxRelay x = loneWith(ROWS, 8);
            commitMany(x, rows);
            x.pass(1);
            same("all of " + rows, messageOf(x, 0), List.of(0, 0, 2, rows, rows - 1));
        }
    }

    @Sentence(says = LEAST)
    static void theLeastNumbersAlsoIfTheyWereCommittedLast() {
        OutboxRelay x = relayWith(NUMBERS, 1, ROWS, 2);
        obeyed(x, "b;b;w00=1;w10=2;w10=3;w00=4;c1;c0;t1");
        same("rows 0 and 1", messageOf(x, 0), List.of(0, 0, 2, 2, 1));
    }

    // Terms: sweeping

    @Sentence(says = ANSWERED)
    static void theNumberThatIsTheAnswerMarkIsAnswered() {
        OutboxRelay x = loneWith();
        commitRows(x, 0, 1, 0, 1, 0, 1, 0, 1);
        same("before", ofRows(x, 6), List.of(6, 6, 6, 6));
        x.pass(5);
        same("rows 0 to 2, and not the one above", ofRows(x, 6), List.of(7, 7, 7, 6));
    }

    @Sentence(says = ANSWERED)
    static void whatIsNotWantedIsAnswered() {
        OutboxRelay x = new OutboxRelay();
        commitRows(x, 0, 1, 3, 1);
        x.want(0, 14);
        x.want(2, 7);
        same("by receiver 0 and by receiver 2", ofRows(x, 6), List.of(1, 4));
    }

    @Sentence(says = SWEPT)
    static void eachOfTheReceiversKeepsARow() {
        for (int receiver = 0; receiver < 3; receiver++) {
            OutboxRelay x = new OutboxRelay();
            commitRows(x, 0, 1);
            wantNothing(x);
            x.want(receiver, 1);
            same("not answered by " + receiver, x.sweep(), 0);
            x.want(receiver, 14);
            same("answered by all", x.sweep(), 1);
        }
    }

    @Sentence(says = SWEPT)
    static void theFirstAndTheLastAreSweptAndOthersStay() {
        OutboxRelay x = loneWith();
        commitRows(x, 0, 1, 1, 1, 0, 1);
        x.want(0, 2);
        same("swept", x.sweep(), 2);
        same("the one between", ofRows(x, 0), List.of(1));
        same("swept so far", x.count(4), 2);
    }

    @Sentence(says = LOST_ROW)
    static void aSkippedRowIsLostWhenItIsSwept() {
        OutboxRelay x = skippingRowZero();
        same("before", ofReceivers(x, 11), List.of(0, 0, 0));
        x.want(1, 14);
        same("rows 0 and 1", x.sweep(), 2);
        same("for those who want it", ofReceivers(x, 11), List.of(1, 0, 1));
    }

    @Sentence(says = LOST_ROW)
    static void aRowWithAnEffectIsNotLost() {
        OutboxRelay x = new OutboxRelay();
        commitRows(x, 0, 1, 1, 1);
        x.pass(5);
        same("both", x.sweep(), 2);
        same("lost", ofReceivers(x, 11), List.of(0, 0, 0));
    }

    @Sentence(says = LOST_ROW)
    static void aRowThatIsNotWantedIsNotLost() {
        OutboxRelay x = new OutboxRelay();
        commitRows(x, 0, 1, 1, 1);
        wantNothing(x);
        same("both", x.sweep(), 2);
        same("lost", ofReceivers(x, 11), List.of(0, 0, 0));
    }

    // Promise 7

    @Sentence(promise = 7, says = "- `ticks`: 1 to 99")
    static void passOfOneTickAndOfNinetyNine() {
        OutboxRelay x = new OutboxRelay();
        x.pass(1);
        same("one", x.count(0), 1);
        x.pass(99);
        same("and ninety-nine", x.count(0), 100);
        refusedBeside(1, 99, ARGUMENT, "ticks", OutboxRelay::pass);
    }

    @Sentence(promise = 7, says = "Returns how many effects there were in them.")
    static void passReturnsTheEffects() {
        OutboxRelay x = new OutboxRelay();
        same("without rows", x.pass(99), 0);
        commitRows(x, 0, 1, 0, 1);
        same("before they come", x.pass(2), 0);
        same("on all three", x.pass(1), 6);
        same("none any more", x.pass(99), 0);
    }

    @Sentence(promise = 7, says = "Returns how many effects there were in them.")
    static void passReturnsNoRepeatsButSecondEffects() {
        OutboxRelay x = loneWith(WAIT, 1);
        commitRows(x, 0, 1);
        same("with repeats", x.pass(99), 1);
        same("repeats", x.receiver(0, 5), 3);
        OutboxRelay y = loneWith(BY_MARK, 0, MEMORY, 1, WAIT, 1);
        commitRows(y, 0, 1, 0, 1);
        same("with second effects", y.pass(99), 8);
        same("of them", y.receiver(0, 6), 6);
    }

    @Sentence(promise = 7, says = "Throws `IllegalArgumentException` if ticks is out of range")
    static void passOfNoTicksAndOfAHundred() {
        refusedAlways(ARGUMENT, "0", x -> x.pass(0));
        refusedAlways(ARGUMENT, "100", x -> x.pass(100));
    }

    // Promise 8

    @Sentence(promise = 8, says = LOSE)
    static void losesTheOneThatComesFirst() {
        OutboxRelay x = loneWith(TICKS, 5, WAIT, 1);
        commitRows(x, 0, 1);
        x.pass(1);
        x.set(TICKS, 1);
        x.pass(1);
        same("the one that was sent last comes first", ofMessages(x, 2), List.of(1, 4));
        x.lose();
        same("it is lost", ofMessages(x, 2), List.of(4));
        same("it never comes", x.pass(1), 0);
    }

    @Sentence(promise = 8, says = LOSE)
    static void losesOfSeveralTheOneThatWasSentFirst() {
        OutboxRelay x = new OutboxRelay();
        commitRows(x, 0, 1);
        x.pass(1);
        x.lose();
        same("that to receiver 0", ofMessages(x, 1), List.of(1, 2));
        x.lose();
        same("that to receiver 1", ofMessages(x, 1), List.of(2));
    }

    @Sentence(promise = 8, says = "Returns how many messages are on their way then.")
    static void loseReturnsHowManyAreLeft() {
        OutboxRelay x = new OutboxRelay();
        commitRows(x, 0, 1);
        x.pass(1);
        same("three, two, one", told(3, i -> x.lose()), List.of(2, 1, 0));
        same("lost", x.count(6), 3);
    }

    @Sentence(promise = 8, says = "Throws `IllegalStateException` if none is on its way")
    static void loseWithoutAMessage() {
        refusedAfter(Relays::isNew, STATE, "without any", OutboxRelay::lose);
        refusedAfter(x -> {
            commitRows(x, 0, 1);
            x.pass(9);
        }, STATE, "when all came", OutboxRelay::lose);
        refusedAfter(x -> {
            commitRows(x, 0, 1);
            x.pass(1);
            x.lose();
            x.lose();
            x.lose();
        }, STATE, "when all are lost", OutboxRelay::lose);
    }

    // Promise 9

    @Sentence(promise = 9, says = "Returns how many rows are swept.")
    static void sweepReturnsNoneAndAll() {
        OutboxRelay x = new OutboxRelay();
        same("without rows", x.sweep(), 0);
        commitMany(x, 60);
        same("none is answered", x.sweep(), 0);
        wantNothing(x);
        same("all are", x.sweep(), 60);
        same("and no more", x.sweep(), 0);
        same("so far", x.count(4), 60);
    }

    public static void main(String[] args) {
        Sentences.run(RelayBoundaryTest.class);
    }
}
