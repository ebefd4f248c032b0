import java.util.List;

/** Boundary cases of what receivers do with batches, and of promise 6: what they want. */
public final class ReceiverBoundaryTest extends Relays {

    private static final String THREE = "There are 3 receivers, numbered from 0.";
    private static final String TOPICS = "Each wants a set of topics, told as a mask (the bit t for the topic t), at first"
        + " all (15).";
    private static final String AT_FIRST = "A receiver has a mark, at first NONE, and a memory of numbers, at first"
        + " empty.";
    private static final String BY_THE_MARK = "With setting 5 as 1, a row is a repeat if its number is at most the mark"
        + " of the receiver";
    private static final String BY_THE_MEMORY = "with setting 5 as 0, if its number is in the memory.";
    private static final String MARK_RISES = "the mark becomes its number, if that is greater";
    private static final String FORGETS = "if the memory has more than setting 6 numbers then, the one that came first is"
        + " forgotten (this one alone, also if they are more by two).";
    private static final String SECOND = "An effect is a second one if the row has had its effect on this receiver before"
        + " (swept rows can still be in batches)";
    private static final String OUT_OF_ORDER = "it is out of order if the receiver has had an effect of a row with a"
        + " greater number before.";
    private static final String ANSWERS = "Behind a batch the receiver sends an answer with the greatest number in the"
        + " batch.";

    /** Receiver 0 alone is sent all rows in one batch of a tick, tells repeats by its memory, and has its effects. */
    private static OutboxRelay remembering(int memory, int... topicsAndValues) {
        OutboxRelay x = loneWith(BY_MARK, 0, MEMORY, memory, TICKS, 1, ROWS, 8, WAIT, 20);
        commitRows(x, topicsAndValues);
        x.pass(2);
        x.lose();
        return x;
    }

    /** The effects when rows of these topics are sent again to receiver 0; its answer gets lost. */
    private static int effectsOfSendingAgain(OutboxRelay x, int topics) {
        x.want(0, topics);
        x.set(WAIT, 1);
        x.pass(1);
        x.set(WAIT, 20);
        int effects = x.pass(1);
        x.lose();
        return effects;
    }

    // Terms

    @Sentence(says = THREE)
    static void theFirstAndTheLastReceiver() {
        OutboxRelay x = new OutboxRelay();
        commitRows(x, 0, 7);
        same("effects on all three", x.pass(3), 3);
        same("sums", ofReceivers(x, 4), List.of(7, 7, 7));
        refusedBeside(0, 2, INDEX, "receiver", (y, receiver) -> y.receiver(receiver, 0));
    }

    @Sentence(says = TOPICS)
    static void allTopicsAreWantedAtFirst() {
        OutboxRelay x = new OutboxRelay();
        same("masks", ofReceivers(x, 0), List.of(15, 15, 15));
        commitRows(x, 0, 1, 1, 1, 2, 1, 3, 1);
        same("rows for them", ofReceivers(x, 10), List.of(4, 4, 4));
    }

    @Sentence(says = TOPICS)
    static void theFirstAndTheLastBitAndNone() {
        OutboxRelay x = new OutboxRelay();
        commitRows(x, 0, 1, 1, 2, 2, 4, 3, 8);
        x.want(0, 1);
        x.want(1, 8);
        x.want(2, 0);
        same("rows for them", ofReceivers(x, 10), List.of(1, 1, 0));
        same("effects", x.pass(3), 2);
        same("sums", ofReceivers(x, 4), List.of(1, 8, 0));
    }

    @Sentence(says = TOPICS)
    static void eachBitIsForItsTopic() {
        for (int topic = 0; topic < 4; topic++) {
            OutboxRelay x = new OutboxRelay();
            commitRows(x, 0, 1, 1, 2, 2, 4, 3, 8);
            x.want(0, 1 << topic);
            x.want(1, 15 - (1 << topic));
            same("rows of topic " + topic, ofReceivers(x, 10), List.of(1, 3, 4));
            x.pass(3);
            same("its value", x.receiver(0, 4), 1 << topic);
        }
    }

    @Sentence(says = AT_FIRST)
    static void markAndMemoryAtFirst() {
        OutboxRelay x = new OutboxRelay();
        same("marks", ofReceivers(x, 1), List.of(-1, -1, -1));
        same("in the memory", ofReceivers(x, 2), List.of(0, 0, 0));
    }

    @Sentence(says = "When a batch comes to a receiver, its rows are gone through by rising numbers.")
    static void rowsOfABatchComeByRisingNumbersAlsoIfTheyWereCommittedOtherwise() {
        Step batch = inTurn(with(NUMBERS, 1, ROWS, 4), obeying("b;b;w00=1;w10=2;w00=4;w10=8;c1;c0;t3"));
        OutboxRelay x = after(batch);
        same("none is a repeat by the mark", ofReceivers(x, 3), List.of(4, 4, 4));
        same("none is out of order", ofReceivers(x, 7), List.of(0, 0, 0));
        sameDigest("the memory", batch, false, "", 0, 1, 2, 3);
    }

    @Sentence(says = BY_THE_MARK)
    static void theLeastNumberIsNoRepeatAtFirst() {
        OutboxRelay x = loneWith(BY_MARK, 1);
        commitRows(x, 0, 5);
        same("effects", x.pass(3), 1);
        same("repeats", x.receiver(0, 5), 0);
    }

    @Sentence(says = BY_THE_MARK)
    static void theNumberThatIsTheMarkIsARepeat() {
        OutboxRelay x = loneWith(BY_MARK, 1, WAIT, 1);
        commitRows(x, 0, 5);
        same("effects of the first batch", x.pass(3), 1);
        same("and of the second", x.pass(1), 0);
        same("repeats", x.receiver(0, 5), 1);
    }

    @Sentence(says = BY_THE_MARK)
    static void theNumberBelowTheMarkIsARepeat() {
        OutboxRelay x = relayWith(NUMBERS, 1, BY_MARK, 1);
        x.want(1, 0);
        x.want(2, 0);
        obeyed(x, "b;b;w00=1;w10=2;c1;t3;c0");
        x.lose();
        same("row 0 is sent, when 1 is the mark", x.pass(4) * 10 + x.message(0, 3), 2);
        same("no effect of either", x.pass(2), 0);
        same("two repeats", x.receiver(0, 5), 2);
    }

    @Sentence(says = BY_THE_MARK)
    static void theNumberAboveTheMarkIsNoRepeat() {
        OutboxRelay x = loneWith(BY_MARK, 1, WAIT, 1);
        commitRows(x, 0, 5);
        x.pass(2);
        commitRows(x, 0, 6);
        same("the first row alone", x.pass(2), 1);
        same("the second, in a batch of both", x.pass(1), 1);
        same("repeats of the first", x.receiver(0, 5), 2);
        same("sum", x.receiver(0, 4), 11);
    }

    @Sentence(says = BY_THE_MARK)
    static void byTheMarkTheMemoryDoesNotCount() {
        OutboxRelay x = loneWith(BY_MARK, 1, MEMORY, 1, WAIT, 1);
        commitRows(x, 0, 5, 0, 6);
        same("effects", x.pass(3), 2);
        same("row 0 is forgotten, but a repeat", x.pass(1), 0);
    }

    @Sentence(says = BY_THE_MEMORY)
    static void theFirstAndTheLastOfTheMemoryAreRepeats() {
        OutboxRelay x = remembering(3, 0, 1, 1, 1, 2, 1);
        same("rows 0, 1 and 2 again", effectsOfSendingAgain(x, 7), 0);
        same("repeats", x.receiver(0, 5), 3);
    }

    @Sentence(says = BY_THE_MEMORY)
    static void nothingIsARepeatWithAnEmptyMemory() {
        OutboxRelay x = loneWith(BY_MARK, 0, MEMORY, 1);
        commitRows(x, 0, 5);
        same("effects", x.pass(3), 1);
        same("repeats", x.receiver(0, 5), 0);
    }

    @Sentence(says = BY_THE_MEMORY)
    static void byTheMemoryTheMarkDoesNotCount() {
        OutboxRelay x = remembering(1, 0, 1, 1, 2);
        same("the mark", x.receiver(0, 1), 1);
        same("row 0, below it, has an effect", effectsOfSendingAgain(x, 1), 1);
        same("repeats", x.receiver(0, 5), 0);
    }

    @Sentence(says = "A row that is no repeat has its effect (also if the receiver does not want its topic any more)")
    static void anEffectOfATopicNotWantedAnyMore() {
        OutboxRelay x = new OutboxRelay();
        commitRows(x, 0, 7);
        x.pass(2);
        wantNothing(x);
        same("effects", x.pass(1), 3);
        same("sums", ofReceivers(x, 4), List.of(7, 7, 7));
    }

    @Sentence(says = "its value is added to the sum of the receiver")
    static void theLeastAndTheGreatestValueAreAdded() {
        OutboxRelay x = new OutboxRelay();
        commitRows(x, 0, 0, 1, 99, 2, 99);
        x.want(1, 1);
        x.pass(3);
        same("sums", ofReceivers(x, 4), List.of(198, 0, 198));
        same("effects", ofReceivers(x, 3), List.of(3, 1, 3));
    }

    @Sentence(says = MARK_RISES)
    static void theMarkRisesFromNoneToZeroAndOn() {
        OutboxRelay x = loneWith(ROWS, 1);
        commitRows(x, 0, 1, 0, 1);
        x.pass(3);
        same("behind row 0", x.receiver(0, 1), 0);
        x.pass(4);
        same("behind row 1", x.receiver(0, 1), 1);
        same("of those who had none", x.receiver(1, 1) + x.receiver(2, 1), -2);
    }

    @Sentence(says = MARK_RISES)
    static void theMarkStaysBehindALesserNumber() {
        OutboxRelay x = remembering(1, 0, 1, 1, 2);
        same("row 0 has an effect", effectsOfSendingAgain(x, 1), 1);
        same("the mark", x.receiver(0, 1), 1);
    }

    @Sentence(says = "and its number comes to the memory")
    static void theNumberOfARowComesToTheMemoryOnce() {
        Step one = inTurn(with(WAIT, 1), obeying("b;w03=5;c0;t2"));
        sameDigest("before its effect", one, false, "");
        sameDigest("behind it", inTurn(one, passing(1)), false, "", 0);
        sameDigest("behind a repeat", inTurn(one, passing(2)), false, "", 0);
        same("that was one", after(inTurn(one, passing(2))).receiver(2, 5), 1);
    }

    @Sentence(says = FORGETS)
    static void asManyAsTheSettingAreRemembered() {
        for (int memory : new int[] {1, 2, 6}) {
            OutboxRelay x = loneWith(MEMORY, memory, ROWS, 8);
            commitMany(x, memory);
            x.pass(3);
            same("all of " + memory, x.receiver(0, 2), memory);
            commitMany(x, 1);
            x.pass(4);
            same("one more than " + memory, x.receiver(0, 2), memory);
            same("effects", x.receiver(0, 3), memory + 1);
        }
    }

    @Sentence(says = FORGETS)
    static void twentyAreRememberedAndNoMore() {
        OutboxRelay x = loneWith(BY_MARK, 0, MEMORY, 20, TICKS, 1, ROWS, 8, WAIT, 1);
        commitMany(x, 21);
        x.pass(99);
        same("effects", x.receiver(0, 3), 21);
        same("remembered", x.receiver(0, 2), 20);
    }

    @Sentence(says = FORGETS)
    static void theOneThatCameFirstIsForgotten() {
        OutboxRelay x = remembering(2, 0, 1, 1, 2, 2, 4);
        same("rows 1 and 2 are remembered", effectsOfSendingAgain(x, 6), 0);
        same("row 0 is not", effectsOfSendingAgain(x, 1), 1);
        same("then row 1 is not", effectsOfSendingAgain(x, 2), 1);
        same("and row 0 is", effectsOfSendingAgain(x, 1), 0);
    }

    @Sentence(says = FORGETS)
    static void oneAloneIsForgottenAlsoIfTheyAreMoreByTwo() {
        OutboxRelay x = remembering(4, 0, 1, 1, 1, 2, 1, 3, 1);
        x.set(MEMORY, 3);
        same("none by the setting", x.receiver(0, 2), 4);
        commitRows(x, 0, 7);
        same("a fifth", effectsOfSendingAgain(x, 15), 1);
        same("still four", x.receiver(0, 2), 4);
        same("rows 1, 2 and 3 are remembered", effectsOfSendingAgain(x, 14), 0);
        same("row 0 is not, row 4 is", effectsOfSendingAgain(x, 1), 1);
    }

    @Sentence(says = FORGETS)
    static void aRepeatIsNotRememberedAnew() {
        OutboxRelay x = remembering(2, 0, 1, 1, 2);
        effectsOfSendingAgain(x, 1);
        same("two", x.receiver(0, 2), 2);
        commitRows(x, 2, 4);
        same("row 2 alone", effectsOfSendingAgain(x, 4), 1);
        same("row 0 came first and is forgotten", effectsOfSendingAgain(x, 1), 1);
    }

    @Sentence(says = "(Both are kept, whatever setting 5 is.)")
    static void markAndMemoryAreBothKept() {
        for (int setting = 0; setting <= 1; setting++) {
            OutboxRelay x = loneWith(BY_MARK, setting);
            commitRows(x, 0, 1, 0, 1);
            x.pass(3);
            same("mark with " + setting, x.receiver(0, 1), 1);
            same("memory with " + setting, x.receiver(0, 2), 2);
        }
    }

    @Sentence(says = SECOND)
    static void theFirstEffectIsNoSecondOne() {
        OutboxRelay x = new OutboxRelay();
        commitRows(x, 0, 1, 0, 1);
        same("effects on three receivers", x.pass(3), 6);
        same("second ones", ofReceivers(x, 6), List.of(0, 0, 0));
    }

    @Sentence(says = SECOND)
    static void theSecondAndTheThirdEffectAreSecondOnes() {
        OutboxRelay x = remembering(1, 0, 1, 1, 1);
        effectsOfSendingAgain(x, 3);
        same("second ones", x.receiver(0, 6), 2);
        effectsOfSendingAgain(x, 3);
        same("third ones too", x.receiver(0, 6), 4);
        same("effects", x.receiver(0, 3), 6);
    }

    @Sentence(says = SECOND)
    static void sweptRowsCanHaveASecondEffect() {
        OutboxRelay x = loneWith(BY_MARK, 0, MEMORY, 1, WAIT, 1);
        commitRows(x, 0, 3, 0, 4);
        x.pass(5);
        same("both are swept", x.sweep() * 10 + x.count(3), 20);
        same("second ones before", x.receiver(0, 6), 4);
        same("effects of the batch on its way", x.pass(1), 2);
        same("second ones behind it", x.receiver(0, 6), 6);
        same("sum", x.receiver(0, 4), 28);
    }

    @Sentence(says = OUT_OF_ORDER)
    static void theFirstEffectIsNotOutOfOrder() {
        OutboxRelay x = loneWith();
        commitRows(x, 0, 1, 0, 1, 0, 1);
        same("effects", x.pass(3), 3);
        same("out of order", x.receiver(0, 7), 0);
    }

    @Sentence(says = OUT_OF_ORDER)
    static void aLesserNumberIsOutOfOrderAndTheSameIsNot() {
        OutboxRelay x = remembering(1, 0, 1, 1, 2);
        effectsOfSendingAgain(x, 1);
        same("row 0 behind row 1", x.receiver(0, 7), 1);
        same("an effect of row 1", effectsOfSendingAgain(x, 2), 1);
        same("behind row 1 and row 0", x.receiver(0, 7), 1);
        same("an effect of row 0", effectsOfSendingAgain(x, 1), 1);
        same("behind row 1 once more", x.receiver(0, 7), 2);
    }

    @Sentence(says = OUT_OF_ORDER)
    static void byTheGreatestNumberBeforeAndNotByTheLatest() {
        OutboxRelay x = remembering(1, 0, 1, 1, 2, 2, 4);
        effectsOfSendingAgain(x, 1);
        same("row 0 behind row 2", x.receiver(0, 7), 1);
        effectsOfSendingAgain(x, 2);
        same("row 1 behind rows 2 and 0", x.receiver(0, 7), 2);
    }

    @Sentence(says = OUT_OF_ORDER)
    static void byTheEffectsOfThisReceiverAlone() {
        OutboxRelay x = relayWith(ROWS, 1);
        commitRows(x, 0, 1, 1, 1);
        x.want(0, 2);
        x.want(1, 1);
        x.pass(3);
        same("marks", ofReceivers(x, 1), List.of(1, 0, 0));
        same("out of order", ofReceivers(x, 7), List.of(0, 0, 0));
    }

    @Sentence(says = ANSWERS)
    static void theAnswerHasTheGreatestNumber() {
        for (int rows : new int[] {1, 2, 8}) {
            OutboxRelay x = loneWith(ROWS, rows);
            commitMany(x, 9);
            x.pass(3);
            same("of a batch of " + rows, messageOf(x, 0), List.of(1, 0, 2, 0, rows - 1));
        }
    }

    @Sentence(says = ANSWERS)
    static void aBatchOfRepeatsIsAnsweredToo() {
        OutboxRelay x = loneWith(WAIT, 1);
        commitRows(x, 0, 1);
        x.pass(2);
        x.set(WAIT, 20);
        same("the first has its effect", x.pass(1), 1);
        same("the second has none", x.pass(1), 0);
        same("two answers", ofMessages(x, 0), List.of(1, 1));
    }

    // Promise 6

    @Sentence(promise = 6, says = "- `receiver`: 0 to 2")
    static void wantOfTheFirstAndTheLastReceiver() {
        OutboxRelay x = new OutboxRelay();
        x.want(0, 1);
        x.want(2, 4);
        same("topics", ofReceivers(x, 0), List.of(1, 15, 4));
        refusedBeside(0, 2, INDEX, "receiver", (y, receiver) -> y.want(receiver, 15));
    }

    @Sentence(promise = 6, says = "- `topics`: 0 to 15, as a mask")
    static void wantOfNoTopicsAndOfAll() {
        OutboxRelay x = new OutboxRelay();
        commitRows(x, 0, 1, 3, 1);
        x.want(1, 0);
        same("rows for it, without topics", x.receiver(1, 10), 0);
        x.want(1, 15);
        same("rows for it, with all", x.receiver(1, 10), 2);
        refusedBeside(0, 15, ARGUMENT, "topics", (y, topics) -> y.want(2, topics));
    }

    @Sentence(promise = 6, says = "Returns what it wanted.")
    static void wantReturnsTheLeastAndTheGreatest() {
        OutboxRelay x = new OutboxRelay();
        same("at first", x.want(0, 0), 15);
        same("none", x.want(0, 15), 0);
        same("all", x.want(0, 15), 15);
        same("of another one", x.want(1, 3), 15);
    }

    @Sentence(promise = 6, says = "Throws `IndexOutOfBoundsException` if there is no such receiver")
    static void wantOfNoReceiver() {
        refusedAlways(INDEX, "receiver 3", x -> x.want(3, 0));
        refusedAlways(INDEX, "receiver -1", x -> x.want(-1, 0));
    }

    @Sentence(promise = 6, says = "Throws `IllegalArgumentException` if topics is out of range")
    static void wantOfNoSuchTopics() {
        refusedAlways(ARGUMENT, "topic 4", x -> x.want(0, 16));
        refusedAlways(ARGUMENT, "a mask below 0", x -> x.want(2, -1));
    }

    public static void main(String[] args) {
        Sentences.run(ReceiverBoundaryTest.class);
    }
}
