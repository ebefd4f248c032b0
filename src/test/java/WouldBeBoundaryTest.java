import java.math.BigInteger;
import java.util.List;

/** Boundary cases of promises 24 to 30: what would be, shares, and the digest. */
public final class WouldBeBoundaryTest extends Relays {

    private static final String DRAINS = "Returns behind how many ticks, if they pass, there are no rows for any receiver"
        + " and no messages on their way, for the first time; 0 if it is so now; NONE if it is not so within 300 ticks.";
    private static final String SKIPS = "Returns how many rows of the transaction at this place, with topics that the"
        + " receiver wants, would have a number that is at most its answer mark; NONE if there is no transaction at this"
        + " place.";
    private static final String SLOWEST = "Returns the receiver for whom there are the most rows, of several the lowest;"
        + " NONE if there are none for any.";
    private static final String GOOD = "Returns the messages that were sent so far and did not get lost, as a double,"
        + " divided by all sent so far; 1.0 without any.";
    private static final String MEAN = "Returns the rows of all batches that were sent so far, as a float, divided by these"
        + " batches; 0.0f without any.";
    private static final String WRAPS = "For each value v of the following list, in order, the hash becomes 31 * hash + v,"
        + " in long arithmetic with overflow.";
    private static final String VALUES = "The values are: count(0) to count(11); the settings 0 to 6; for each row that is"
        + " kept, by its rank, its numbers 0 to 7";

    /** Sixty batches of a row each, and six ticks for each of them. */
    private static OutboxRelay drainingIn(int ticks) {
        OutboxRelay x = loneWith(ROWS, 1, TICKS, 3);
        commitMany(x, 60);
        for (int left = 361 - ticks; left > 0; left -= 99) {
            x.pass(Math.min(left, 99));
        }
        return x;
    }

    /** The receivers have answered row 2, and a transaction at 0 has rows 0, 1 and 3 of topics 0, 3 and 0. */
    private static Step withSkips() {
        return inTurn(with(NUMBERS, 1), obeying("b;b;w00=1;w03=1;w10=2;w00=1;c1;t5"));
    }

    private static boolean isDrained(OutboxRelay x) {
        return x.count(7) == 0 && ofReceivers(x, 10).equals(List.of(0, 0, 0));
    }

    private static BigInteger hashWithoutOverflow(List<Long> values) {
        BigInteger hash = BigInteger.valueOf(3623);
        for (long value : values) {
            hash = hash.multiply(BigInteger.valueOf(31)).add(BigInteger.valueOf(value));
        }
        return hash;
    }

    // Promise 24

    @Sentence(promise = 24, says = DRAINS)
    static void drainInNoTicks() {
        OutboxRelay x = new OutboxRelay();
        same("without rows", x.drainIn(), 0);
        commitRows(x, 0, 1);
        wantNothing(x);
        same("without rows for any", x.drainIn(), 0);
        x.want(1, 1);
        x.pass(5);
        same("when all is answered", x.drainIn(), 0);
    }

    @Sentence(promise = 24, says = DRAINS)
    static void drainInOneTick() {
        OutboxRelay x = new OutboxRelay();
        commitRows(x, 0, 1);
        same("five", x.drainIn(), 5);
        x.pass(4);
        same("one", x.drainIn(), 1);
        x.pass(1);
        same("none", x.drainIn(), 0);
    }

    @Sentence(promise = 24, says = DRAINS)
    static void rowsForOneReceiverAreEnough() {
        for (int receiver = 0; receiver < 3; receiver++) {
            OutboxRelay x = new OutboxRelay();
            commitRows(x, 0, 1);
            wantNothing(x);
            x.want(receiver, 1);
            same("for " + receiver, x.drainIn(), 5);
        }
    }

    @Sentence(promise = 24, says = DRAINS)
    static void aMessageWithoutRowsIsEnough() {
        OutboxRelay x = loneWith(WAIT, 4);
        commitRows(x, 0, 1);
        x.pass(3);
        x.want(0, 0);
        same("until the answer comes", x.drainIn(), 2);
        x.lose();
        same("none when it is lost", x.drainIn(), 0);
    }

    @Sentence(promise = 24, says = DRAINS)
    static void rowsWithoutAMessageAreEnough() {
        OutboxRelay x = loneWith(WAIT, 20);
        commitRows(x, 0, 1);
        x.pass(1);
        x.lose();
        same("sent again in 20, answered in four more", x.drainIn(), 24);
    }

    @Sentence(promise = 24, says = DRAINS)
    static void exactlyThreeHundredTicks() {
        same("300", drainingIn(300).drainIn(), 300);
        same("299", drainingIn(299).drainIn(), 299);
    }

    @Sentence(promise = 24, says = DRAINS)
    static void noneBehindThreeHundredTicks() {
        same("301", drainingIn(301).drainIn(), -1);
        same("361", drainingIn(361).drainIn(), -1);
    }

    @Sentence(promise = 24, says = "Tells how long it takes until all is sent and answered.")
    static void drainInTellsAsPassBrings() {
        for (int start = 0; start <= 30; start++) {
            OutboxRelay x = after(inTurn(with(LOSS, 3, WAIT, 3), Relays::isBusy, passing(start + 1)));
            int ticks = x.drainIn();
            for (int left = ticks; left > 0; left--) {
                same("something is left at " + left + " behind " + start, isDrained(x), false);
                x.pass(1);
            }
            same("nothing is left behind " + start, isDrained(x), true);
        }
    }

    // Promise 25

    @Sentence(promise = 25, says = "- `ticks`: 1 to 99")
    static void ifOneTickPassedAndNinetyNine() {
        OutboxRelay x = loneWith(ROWS, 1);
        commitMany(x, 40);
        x.pass(2);
        same("one", x.ifPassed(1, 0, 0), 1);
        same("ninety-nine", x.ifPassed(99, 0, 0), 25);
        same("as ninety-eight, and one more", List.of(x.ifPassed(98, 0, 3), x.ifPassed(99, 0, 3)), List.of(23, 24));
        refusedBeside(1, 99, ARGUMENT, "ticks", (y, ticks) -> y.ifPassed(ticks, 0, 0));
    }

    @Sentence(promise = 25, says = "- `receiver`: 0 to 2")
    static void ifPassedForTheFirstAndTheLastReceiver() {
        OutboxRelay x = new OutboxRelay();
        commitRows(x, 0, 1, 1, 1, 2, 1);
        x.want(0, 1);
        x.want(1, 3);
        same("effects", told(3, r -> x.ifPassed(3, r, 0)), List.of(1, 2, 3));
        refusedBeside(0, 2, INDEX, "receiver", (y, receiver) -> y.ifPassed(1, receiver, 0));
    }

    @Sentence(promise = 25, says = "- `what`: 0: effects in them; 1: repeats in them; 2: second effects in them; 3: its"
        + " answer mark then")
    static void theFirstAndTheLastKindOfWhatWouldBe() {
        OutboxRelay x = loneWith(BY_MARK, 0, MEMORY, 1, WAIT, 1);
        commitRows(x, 0, 1, 0, 1);
        x.pass(4);
        x.set(MEMORY, 2);
        same("effects, repeats, second ones, answer mark", told(4, what -> x.ifPassed(2, 0, what)), List.of(1, 3, 1, 1));
        same("in one tick", told(4, what -> x.ifPassed(1, 0, what)), List.of(1, 1, 1, 1));
        refusedBeside(0, 3, ARGUMENT, "what", (y, what) -> y.ifPassed(1, 0, what));
    }

    @Sentence(promise = 25, says = "Returns the number.")
    static void ifPassedReturnsWhatIsInThemAlone() {
        OutboxRelay x = loneWith(WAIT, 1);
        commitRows(x, 0, 1);
        same("no answer mark", x.ifPassed(4, 0, 3), -1);
        same("the first one", x.ifPassed(5, 0, 3), 0);
        x.pass(4);
        same("no effects any more", x.ifPassed(99, 0, 0), 0);
        same("repeats but for the one that was", x.ifPassed(99, 0, 1), x.pass(99) + x.receiver(0, 5) - 1);
    }

    @Sentence(promise = 25, says = "Tells what ticks would bring for a receiver.")
    static void ifPassedTellsAsPassBrings() {
        for (int ticks : new int[] {1, 2, 3, 50, 99}) {
            OutboxRelay x = after(Relays::isBusyLong);
            List<Integer> told = told(3, r -> x.ifPassed(ticks, r, 1));
            List<Integer> marks = told(3, r -> x.ifPassed(ticks, r, 3));
            List<Integer> before = ofReceivers(x, 5);
            same("nothing is changed", storyOf(x), storyOf(after(Relays::isBusyLong)));
            OutboxRelay y = after(Relays::isBusyLong);
            y.pass(ticks);
            same("repeats in " + ticks, told(3, r -> before.get(r) + told.get(r)), ofReceivers(y, 5));
            same("answer marks in " + ticks, marks, ofReceivers(y, 8));
        }
    }

    @Sentence(promise = 25, says = "Throws `IndexOutOfBoundsException` if there is no such receiver")
    static void ifPassedForNoReceiver() {
        refusedAlways(INDEX, "3", x -> x.ifPassed(1, 3, 0));
        refusedAlways(INDEX, "-1", x -> x.ifPassed(99, -1, 3));
    }

    @Sentence(promise = 25, says = "Throws `IllegalArgumentException` if ticks or what is out of range")
    static void ifPassedWithTicksOrWhatOutOfRange() {
        refusedAlways(ARGUMENT, "no ticks", x -> x.ifPassed(0, 0, 0));
        refusedAlways(ARGUMENT, "a hundred", x -> x.ifPassed(100, 0, 0));
        refusedAlways(ARGUMENT, "kind 4", x -> x.ifPassed(1, 0, 4));
        refusedAlways(ARGUMENT, "kind -1", x -> x.ifPassed(99, 2, -1));
    }

    // Promise 26

    @Sentence(promise = 26, says = "- `place`: 0 to 3")
    static void skipsAtTheFirstAndTheLastPlace() {
        OutboxRelay x = relayWith(NUMBERS, 1);
        obeyed(x, "b;b;b;b;w00=1;w30=1;w30=1;w10=1;c1;t5");
        same("skips", told(4, place -> x.skips(place, 0)), List.of(1, -1, 0, 2));
        refusedBeside(0, 3, INDEX, "place", (y, place) -> y.skips(place, 0));
    }

    @Sentence(promise = 26, says = "- `receiver`: 0 to 2")
    static void skipsOfTheFirstAndTheLastReceiver() {
        OutboxRelay x = after(withSkips());
        x.want(1, 8);
        x.want(2, 0);
        same("skips", told(3, r -> x.skips(0, r)), List.of(2, 1, 0));
        refusedBeside(0, 2, INDEX, "receiver", (y, receiver) -> y.skips(0, receiver));
    }

    @Sentence(promise = 26, says = SKIPS)
    static void rowsBelowTheAnswerMarkAreSkippedAndThoseAboveAreNot() {
        OutboxRelay x = after(withSkips());
        same("answer mark", x.receiver(0, 8), 2);
        same("rows 0 and 1, but not row 3", x.skips(0, 0), 2);
        x.commit(0);
        same("row 3 alone is for it", x.receiver(0, 10), 1);
    }

    @Sentence(promise = 26, says = SKIPS)
    static void noneAreSkippedWithoutAnAnswerMark() {
        OutboxRelay x = relayWith(NUMBERS, 1);
        obeyed(x, "b;b;w00=1;w10=2;c1;t4");
        same("row 0, with an answer mark of none", List.of(x.receiver(0, 8), x.skips(0, 0)), List.of(-1, 0));
        x.pass(1);
        same("row 0, with one of 1", x.skips(0, 0), 1);
    }

    @Sentence(promise = 26, says = SKIPS)
    static void sixRowsAreSkippedAndNone() {
        OutboxRelay x = relayWith(NUMBERS, 1);
        obeyed(x, "b;w00=1;w00=1;w00=1;w00=1;w00=1;w00=1");
        obeyed(x, "b;w10=1;c1;b;t5");
        same("all of a full transaction", x.skips(0, 2), 6);
        same("none of an empty one", x.skips(1, 2), 0);
    }

    @Sentence(promise = 26, says = SKIPS)
    static void theFirstAndTheLastTopicAreSkippedIfWanted() {
        OutboxRelay x = after(withSkips());
        int[] due = {0, 1, 0, 1, 0, 1, 0, 1, 1, 2, 1, 2, 1, 2, 1, 2};
        for (int topics = 0; topics < 16; topics++) {
            x.want(1, topics);
            same("with topics " + topics, x.skips(0, 1), due[topics]);
        }
    }

    @Sentence(promise = 26, says = SKIPS)
    static void noneAreSkippedByTheOrderOfCommitting() {
        OutboxRelay x = relayWith(NUMBERS, 0);
        obeyed(x, "b;b;w00=1;w00=1;w00=1;w10=2;w10=2;c1;t5");
        same("answer mark", x.receiver(0, 8), 1);
        same("rows 2 to 4 by committing, though written first", x.skips(0, 0), 0);
    }

    @Sentence(promise = 26, says = SKIPS)
    static void byTheOrderOfWritingTheCommitNumbersDoNotCount() {
        OutboxRelay x = relayWith(NUMBERS, 1);
        obeyed(x, "b;w00=1;w00=1;w00=1;d0;b;b;w00=1;w10=1;w10=1;c0;t5");
        same("answer mark", x.receiver(0, 8), 3);
        same("rows 4 and 5, with commit numbers 1 and 2", x.skips(1, 0), 0);
    }

    @Sentence(promise = 26, says = SKIPS)
    static void skipsWithoutATransaction() {
        same("on a new one", told(12, i -> new OutboxRelay().skips(i / 3, i % 3)), told(12, i -> -1));
        OutboxRelay x = after(withSkips());
        x.drop(0);
        same("behind a commit and a drop", List.of(x.skips(0, 0), x.skips(1, 2)), List.of(-1, -1));
    }

    @Sentence(promise = 26, says = "Tells how many rows a commit would make a receiver skip.")
    static void skipsTellsAsCommitMakes() {
        for (int topics = 0; topics < 16; topics++) {
            OutboxRelay x = after(withSkips());
            int mask = topics;
            told(3, r -> x.want(r, mask >> r));
            List<Integer> skips = told(3, r -> x.skips(0, r));
            List<Integer> before = ofReceivers(x, 10);
            x.commit(0);
            List<Integer> more = told(3, r -> x.receiver(r, 10) - before.get(r));
            int[] wanted = {0, 0, 0};
            for (int r = 0; r < 3; r++) {
                wanted[r] = 2 * (mask >> r & 1) + (mask >> r >> 3 & 1);
            }
            same("skipped or sent, with topics " + topics, told(3, r -> skips.get(r) + more.get(r)),
                told(3, r -> wanted[r]));
        }
    }

    @Sentence(promise = 26, says = "Throws `IndexOutOfBoundsException` if there is no such place or receiver")
    static void skipsOfNoPlaceOrReceiver() {
        refusedAlways(INDEX, "place 4", x -> x.skips(4, 2));
        refusedAlways(INDEX, "place -1", x -> x.skips(-1, 0));
        refusedAlways(INDEX, "receiver 3", x -> x.skips(3, 3));
        refusedAlways(INDEX, "receiver -1", x -> x.skips(0, -1));
    }

    // Promise 27

    @Sentence(promise = 27, says = SLOWEST)
    static void noneIsSlowestWithoutRows() {
        OutboxRelay x = new OutboxRelay();
        same("on a new one", x.slowest(), -1);
        commitRows(x, 0, 1);
        x.pass(5);
        same("when all is answered", x.slowest(), -1);
        commitRows(x, 3, 1);
        x.want(0, 7);
        x.want(1, 7);
        x.want(2, 7);
        same("when none is wanted", x.slowest(), -1);
    }

    @Sentence(promise = 27, says = SLOWEST)
    static void eachReceiverCanBeTheSlowest() {
        for (int receiver = 0; receiver < 3; receiver++) {
            OutboxRelay x = new OutboxRelay();
            commitRows(x, 0, 1, 1, 1);
            told(3, r -> x.want(r, 2));
            x.want(receiver, 3);
            same("with one row more", x.slowest(), receiver);
            told(3, r -> x.want(r, 0));
            x.want(receiver, 1);
            same("with the only row", x.slowest(), receiver);
        }
    }

    @Sentence(promise = 27, says = SLOWEST)
    static void theLowestOfSeveral() {
        OutboxRelay x = new OutboxRelay();
        commitRows(x, 0, 1, 1, 1);
        same("of three", x.slowest(), 0);
        x.want(0, 1);
        same("of the last two", x.slowest(), 1);
        x.want(0, 3);
        x.want(1, 1);
        same("of the first and the last", x.slowest(), 0);
    }

    // Promise 28

    @Sentence(promise = 28, says = GOOD)
    static void goodShareWithoutMessages() {
        OutboxRelay x = new OutboxRelay();
        same("on a new one", x.goodShare(), 1.0);
        commitRows(x, 0, 1);
        wantNothing(x);
        x.pass(9);
        same("when none was sent", x.goodShare(), 1.0);
    }

    @Sentence(promise = 28, says = GOOD)
    static void goodShareOfNoneLostToAllLost() {
        OutboxRelay x = new OutboxRelay();
        commitRows(x, 0, 1);
        x.pass(1);
        same("none", x.goodShare(), 1.0);
        x.lose();
        same("one of three", x.goodShare(), 2.0 / 3.0);
        x.lose();
        same("two of three", x.goodShare(), 1.0 / 3.0);
        x.lose();
        same("all", x.goodShare(), 0.0);
    }

    @Sentence(promise = 28, says = GOOD)
    static void goodShareOfOneMessage() {
        OutboxRelay x = loneWith();
        commitRows(x, 0, 1);
        x.pass(1);
        same("on its way", x.goodShare(), 1.0);
        x.lose();
        same("lost", x.goodShare(), 0.0);
    }

    // Promise 29

    @Sentence(promise = 29, says = MEAN)
    static void meanBatchWithoutBatches() {
        OutboxRelay x = new OutboxRelay();
        same("on a new one", x.meanBatch(), 0.0f);
        commitRows(x, 0, 1);
        same("before one is sent", x.meanBatch(), 0.0f);
    }

    @Sentence(promise = 29, says = MEAN)
    static void meanBatchOfOneBatch() {
        OutboxRelay x = loneWith();
        commitRows(x, 0, 1, 0, 1);
        x.pass(1);
        same("batches", x.count(8), 1);
        same("of two rows", x.meanBatch(), 2.0f);
    }

    @Sentence(promise = 29, says = MEAN)
    static void meanBatchOfOneRowAndOfEight() {
        for (int rows : new int[] {1, 8}) {
            OutboxRelay x = relayWith(ROWS, rows);
            commitMany(x, 9);
            x.pass(1);
            same("of " + rows, x.meanBatch(), (float) rows);
            x.lose();
            same("lost ones too", x.meanBatch(), (float) rows);
        }
    }

    @Sentence(promise = 29, says = MEAN)
    static void meanBatchBetweenWholeNumbers() {
        OutboxRelay x = new OutboxRelay();
        commitRows(x, 0, 1, 1, 1, 2, 1);
        x.want(0, 3);
        x.want(1, 3);
        x.pass(1);
        same("two, two and three", x.meanBatch(), 7.0f / 3.0f);
        x.pass(4);
        same("answers are none", x.meanBatch(), 7.0f / 3.0f);
    }

    @Sentence(promise = 29, says = MEAN)
    static void meanBatchOfLostBatchesToo() {
        OutboxRelay x = relayWith(LOSS, 3);
        commitRows(x, 0, 1, 1, 1, 2, 1);
        x.want(0, 1);
        x.want(1, 1);
        x.pass(1);
        same("one, one, and three that are lost", x.meanBatch(), 5.0f / 3.0f);
    }

    // Promise 30

    @Sentence(promise = 30, says = "The hash starts at 3623.")
    static void theDigestOfANewOne() {
        BigInteger hash = hashWithoutOverflow(digestValues(OutboxRelay::new, false, ""));
        same("digest", new OutboxRelay().digest(), hash.longValue());
    }

    @Sentence(promise = 30, says = "Returns the hash.")
    static void digestReturnsAllBitsOfTheHash() {
        OutboxRelay x = new OutboxRelay();
        long before = x.digest();
        x.append('b');
        // The last value was the length, 0; now it is 1, and the character stands behind it.
        same("with one character more", x.digest(), (before + 1) * 31 + 'b');
    }

    @Sentence(promise = 30, says = WRAPS)
    static void theDigestWrapsAround() {
        for (int ticks = 1; ticks <= 6; ticks++) {
            Step busy = inTurn(Relays::isBusy, passing(ticks));
            BigInteger hash = hashWithoutOverflow(digestValues(() -> after(busy), true, "b;w0", 0, 1));
            same("more than a long holds", hash.bitLength() > 64, true);
            same("its last 64 bits behind " + ticks, after(busy).digest(), hash.longValue());
        }
    }

    @Sentence(promise = 30, says = VALUES)
    static void theDigestWithoutRowsAndWithSixty() {
        sameDigest("none", Relays::wantNothing, false, "");
        sameDigest("sixty", x -> commitMany(x, 60), false, "");
    }

    @Sentence(promise = 30, says = "for each place its numbers 0 to 2 as a transaction, and skips of the receivers 0 to 2")
    static void theDigestWithoutTransactionsAndWithFour() {
        sameDigest("four", obeying("b;b;b;b;w00=9;w31=5;w32=7"), false, "");
        sameDigest("none", inTurn(obeying("b;b;b;b;w00=9"), OutboxRelay::undo), false, "");
        sameDigest("with skips", inTurn(withSkips(), x -> x.want(1, 8)), false, "", 2);
    }

    @Sentence(promise = 30, says = "the numbers in its memory, the one that came first ahead")
    static void theDigestWithAMemoryThatForgot() {
        Step two = inTurn(with(MEMORY, 3), x -> commitMany(x, 2));
        sameDigest("empty", two, false, "");
        sameDigest("two", inTurn(two, passing(5)), false, "", 0, 1);
        sameDigest("full", inTurn(two, x -> commitMany(x, 1), passing(5)), false, "", 0, 1, 2);
        sameDigest("without the first", inTurn(two, x -> commitMany(x, 2), passing(9)), false, "", 1, 2, 3);
    }

    @Sentence(promise = 30, says = "for each receiver its numbers 0 to 13, the numbers in its memory, the one that came"
        + " first ahead, and ifPassed of 10 ticks with 0 to 3")
    static void theDigestWithWhatTenTicksWouldBring() {
        // With nine ticks a batch comes in the tenth, and with four its answer in the ninth.
        for (int ticks = 1; ticks <= 9; ticks++) {
            Step rows = inTurn(with(TICKS, ticks, WAIT, 1, BY_MARK, 0, MEMORY, 1), x -> commitRows(x, 0, 1, 1, 2),
                x -> x.want(1, 1), x -> x.want(2, 8));
            sameDigest("with messages that take " + ticks, rows, false, "");
        }
    }

    @Sentence(promise = 30, says = "for each message on its way, by its rank, its numbers 0 to 4")
    static void theDigestWithoutMessagesAndWithMany() {
        Step one = inTurn(with(TICKS, 9, WAIT, 1), x -> commitMany(x, 1));
        sameDigest("none", one, false, "");
        sameDigest("27 batches", inTurn(one, passing(9)), false, "");
        sameDigest("batches and answers", inTurn(one, passing(12)), false, "", 0);
    }

    @Sentence(promise = 30, says = "drainIn; slowest; the bits of goodShare (as Double.doubleToLongBits); the bits of"
        + " meanBatch (as Float.floatToIntBits)")
    static void theDigestWithTheLeastAndTheGreatestShares() {
        for (int rows = 1; rows <= 8; rows++) {
            Step ready = inTurn(with(ROWS, rows), x -> commitMany(x, 9), x -> x.want(0, 0));
            sameDigest("1.0 and 0.0f", ready, false, "");
            Step sent = inTurn(ready, passing(1));
            sameDigest("1.0 and " + rows, sent, false, "");
            sameDigest("0.5 and " + rows, inTurn(sent, OutboxRelay::lose), false, "");
            sameDigest("0.0 and " + rows, inTurn(sent, OutboxRelay::lose, OutboxRelay::lose), false, "");
        }
    }

    @Sentence(promise = 30, says = "drainIn; slowest; the bits of goodShare (as Double.doubleToLongBits); the bits of"
        + " meanBatch (as Float.floatToIntBits)")
    static void theDigestWithSharesThatAreNotExact() {
        for (int ticks = 1; ticks <= 9; ticks++) {
            Step lossy = inTurn(with(LOSS, 7, WAIT, 1, TICKS, 9), x -> commitMany(x, 1), passing(ticks));
            sameDigest("behind " + ticks, lossy, false, "");
        }
        Step thirds = x -> {
            commitRows(x, 0, 1, 1, 1, 2, 1);
            x.want(0, 3);
            x.want(1, 3);
            x.pass(1);
            x.lose();
        };
        sameDigest("2/3 and 7/3", thirds, false, "");
    }

    @Sentence(promise = 30, says = "1 if there is a snapshot, otherwise 0")
    static void theDigestWithoutASnapshotAndWithOne() {
        sameDigest("without", Relays::isNew, false, "");
        sameDigest("with one", OutboxRelay::keep, true, "");
        sameDigest("with another", inTurn(OutboxRelay::keep, OutboxRelay::keep), true, "");
    }

    @Sentence(promise = 30, says = "the length of the buffer and each of its character codes.")
    static void theDigestOfAnEmptyBufferAndOfAFullOne() {
        String full = "!" + "~b;w00=1".repeat(7) + "xyz";
        sameDigest("empty", Relays::isNew, false, "");
        sameDigest("one", x -> type(x, "!"), false, "!");
        sameDigest("full", x -> type(x, full), false, full);
        sameDigest("empty again", inTurn(x -> type(x, full), OutboxRelay::clearBuffer), false, "");
    }

    @Sentence(promise = 30, says = "Computes a hash of the whole state.")
    static void theDigestChangesNothing() {
        OutboxRelay x = after(Relays::isBusyLong);
        same("the same again", x.digest(), x.digest());
        same("story", storyOf(x), storyOf(after(Relays::isBusyLong)));
    }

    public static void main(String[] args) {
        Sentences.run(WouldBeBoundaryTest.class);
    }
}
