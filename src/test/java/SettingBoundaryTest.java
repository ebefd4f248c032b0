import java.util.List;

/** Boundary cases of the settings, and of promises 10 and 23. */
public final class SettingBoundaryTest extends Relays {

    private static final String TOO_LATE = "Throws `IllegalStateException` if setting is 0, and any row was committed so"
        + " far";

    /** That the setting is so at first, that it takes its bounds and what is between, and nothing beside them. */
    private static void hasBounds(int setting, int least, int most, int atFirst) {
        same("at first", new OutboxRelay().setting(setting), atFirst);
        OutboxRelay x = new OutboxRelay();
        int before = atFirst;
        for (int value = least; value <= most; value++) {
            same("set to " + value, x.set(setting, value), before);
            same("is " + value, x.setting(setting), value);
            before = value;
        }
        for (int value : new int[] {least - 1, most + 1, FAR[0], FAR[1]}) {
            refusedAlways(ARGUMENT, "value " + value, y -> y.set(setting, value));
        }
    }

    // Terms

    @Sentence(says = "0: the numbers of rows, 0 or 1 (as told above), at first 0")
    static void theNumbersOfRows() {
        hasBounds(NUMBERS, 0, 1, 0);
    }

    @Sentence(says = "1: ticks that a message takes, 1 to 9, at first 2")
    static void ticksOfAMessage() {
        hasBounds(TICKS, 1, 9, 2);
    }

    @Sentence(says = "2: rows of a batch, 1 to 8, at first 3")
    static void rowsOfABatch() {
        hasBounds(ROWS, 1, 8, 3);
    }

    @Sentence(says = "3: ticks until the relay sends again, 1 to 20, at first 6")
    static void ticksUntilTheRelaySendsAgain() {
        hasBounds(WAIT, 1, 20, 6);
    }

    @Sentence(says = "4: messages that get lost, 0, or 2 to 9, at first 0")
    static void messagesThatGetLost() {
        OutboxRelay x = new OutboxRelay();
        same("at first", x.setting(LOSS), 0);
        same("to 2, the least but 0", x.set(LOSS, 2), 0);
        same("to 9, the greatest", x.set(LOSS, 9), 2);
        same("to 0", x.set(LOSS, 0), 9);
        same("is 0", x.setting(LOSS), 0);
        refusedBeside(0, 9, ARGUMENT, "value", (y, value) -> y.set(LOSS, value));
    }

    @Sentence(says = "4: messages that get lost, 0, or 2 to 9, at first 0")
    static void oneIsNoSettingOfLostMessages() {
        refusedAlways(ARGUMENT, "1", x -> x.set(LOSS, 1));
    }

    @Sentence(says = "5: how receivers tell repeats, 0 or 1, at first 1")
    static void howReceiversTellRepeats() {
        hasBounds(BY_MARK, 0, 1, 1);
    }

    @Sentence(says = "6: the numbers that a receiver remembers, 1 to 20, at first 4")
    static void theNumbersThatAReceiverRemembers() {
        hasBounds(MEMORY, 1, 20, 4);
    }

    // Promise 10

    @Sentence(promise = 10, says = "- `setting`: 0 to 6")
    static void setTheFirstAndTheLastSetting() {
        OutboxRelay x = new OutboxRelay();
        x.set(0, 1);
        x.set(6, 20);
        same("settings", told(7, x::setting), List.of(1, 2, 3, 6, 0, 1, 20));
        refusedBeside(0, 6, INDEX, "setting", (y, setting) -> y.set(setting, 1));
    }

    @Sentence(promise = 10, says = "- `value`: the new value")
    static void setTheValueOfThisSettingAlone() {
        int[] other = {1, 5, 5, 5, 5, 0, 5};
        for (int setting = 0; setting < 7; setting++) {
            OutboxRelay x = new OutboxRelay();
            List<Integer> due = told(7, x::setting);
            due.set(setting, other[setting]);
            x.set(setting, other[setting]);
            same("settings behind " + setting, told(7, x::setting), due);
        }
    }

    @Sentence(promise = 10, says = "Returns the previous value.")
    static void setReturnsTheValueBefore() {
        OutboxRelay x = new OutboxRelay();
        same("the first one", x.set(MEMORY, 20), 4);
        same("the greatest", x.set(MEMORY, 1), 20);
        same("the least", x.set(MEMORY, 1), 1);
        same("the same", x.set(MEMORY, 2), 1);
    }

    @Sentence(promise = 10, says = "Throws `IndexOutOfBoundsException` if there is no such setting")
    static void setNoSetting() {
        refusedAlways(INDEX, "setting 7", x -> x.set(7, 0));
        refusedAlways(INDEX, "setting -1", x -> x.set(-1, 0));
    }

    @Sentence(promise = 10, says = "Throws `IllegalArgumentException` if value is out of range")
    static void setAValueOfAnotherSetting() {
        refusedAlways(ARGUMENT, "rows of a batch as ticks", x -> x.set(ROWS, 9));
        refusedAlways(ARGUMENT, "ticks of a message as rows", x -> x.set(TICKS, 20));
        refusedAlways(ARGUMENT, "no memory", x -> x.set(MEMORY, 0));
    }

    @Sentence(promise = 10, says = TOO_LATE)
    static void theNumbersCanBeSetWithoutACommittedRow() {
        OutboxRelay x = new OutboxRelay();
        obeyed(x, "b;b;w00=1;w10=1;d1;b;c1;t9;s");
        same("rows committed", x.count(2), 0);
        same("set to 1", x.set(NUMBERS, 1), 0);
        same("set to 0", x.set(NUMBERS, 0), 1);
    }

    @Sentence(promise = 10, says = TOO_LATE)
    static void theNumbersCannotBeSetWithOneCommittedRow() {
        Step one = x -> obeyed(x, "b;w00=1;c0");
        refusedAfter(one, STATE, "to 1", x -> x.set(NUMBERS, 1));
        refusedAfter(one, STATE, "to 0, as it is", x -> x.set(NUMBERS, 0));
        same("another setting can", after(one).set(TICKS, 9), 2);
        OutboxRelay x = after(one);
        x.undo();
        same("it can be set when the commit is undone", x.set(NUMBERS, 1), 0);
    }

    @Sentence(promise = 10, says = TOO_LATE)
    static void theNumbersCannotBeSetWithASweptRow() {
        refusedAfter(x -> {
            wantNothing(x);
            obeyed(x, "b;w00=1;c0;s");
        }, STATE, "behind a sweep", x -> x.set(NUMBERS, 1));
    }

    // Promise 23

    @Sentence(promise = 23, says = "- `setting`: 0 to 6")
    static void theFirstAndTheLastSetting() {
        OutboxRelay x = relayWith(NUMBERS, 1, MEMORY, 9);
        same("0", x.setting(0), 1);
        same("6", x.setting(6), 9);
        refusedBeside(0, 6, INDEX, "setting", OutboxRelay::setting);
    }

    @Sentence(promise = 23, says = "Returns its value.")
    static void settingReturnsTheLeastAndTheGreatest() {
        same("the greatest", told(7, relayWith(0, 1, 1, 9, 2, 8, 3, 20, 4, 9, 5, 1, 6, 20)::setting),
            List.of(1, 9, 8, 20, 9, 1, 20));
        same("the least", told(7, relayWith(0, 0, 1, 1, 2, 1, 3, 1, 4, 0, 5, 0, 6, 1)::setting),
            List.of(0, 1, 1, 1, 0, 0, 1));
    }

    @Sentence(promise = 23, says = "Throws `IndexOutOfBoundsException` if there is no such setting")
    static void noSetting() {
        refusedAlways(INDEX, "setting 7", x -> x.setting(7));
        refusedAlways(INDEX, "setting -1", x -> x.setting(-1));
    }

    public static void main(String[] args) {
        Sentences.run(SettingBoundaryTest.class);
    }
}
