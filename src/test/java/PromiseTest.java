import java.util.ArrayList;
import java.util.List;

/** For each promise of the document: ordinary inputs, the edges that it names, wrong inputs. */
public final class PromiseTest extends Relays {

    public static void main(String[] args) {
        checks.rename("PromiseTest");
        newObject();
        begin();
        write();
        commit();
        commitInOtherOrders();
        commitBetween();
        drop();
        want();
        pass();
        passSendsAgain();
        passLosesAnswers();
        passWithMemory();
        passWithTheGreatestMemory();
        passOutOfOrder();
        passWithOtherTicks();
        passWithAllMessages();
        lose();
        sweep();
        set();
        append();
        clearBuffer();
        firstError();
        obey();
        keepAndGoBack();
        undo();
        undoOfContents();
        goBackToOtherRows();
        row();
        transaction();
        receiver();
        receiverLost();
        message();
        count();
        setting();
        drainIn();
        ifPassed();
        skips();
        slowest();
        goodShare();
        meanBatch();
        digest();
        checks.close();
    }

    // Promise 1

    private static void newObject() {
        OutboxRelay x = new OutboxRelay();
        for (int what = 0; what <= 11; what++) {
            same("new: count " + what, x.count(what), 0);
        }
        for (int place = 0; place < 4; place++) {
            same("new: place " + place, x.transaction(place, 0), -1);
        }
        int[] first = {15, -1, 0, 0, 0, 0, 0, 0, -1, 0, 0, 0, 0, 0};
        for (int r = 0; r < 3; r++) {
            for (int what = 0; what < first.length; what++) {
                same("new: receiver " + r + ", " + what, x.receiver(r, what), first[what]);
            }
        }
        int[] settings = {0, 2, 3, 6, 0, 1, 4};
        for (int i = 0; i < settings.length; i++) {
            same("new: setting " + i, x.setting(i), settings[i]);
        }
        same("new: firstError", x.firstError(), 0);
        same("new: clearBuffer", x.clearBuffer(), 0);
        refused(x, "new: goBack", STATE, x::goBack);
        refused(x, "new: undo", STATE, x::undo);
        refused(x, "new: row", INDEX, () -> x.row(0, 0));
        refused(x, "new: message", INDEX, () -> x.message(0, 0));
    }

    // Promise 2

    private static void begin() {
        OutboxRelay x = new OutboxRelay();
        for (int place = 0; place < 4; place++) {
            same("begin", x.begin(), place);
        }
        same("begin: saved states", x.count(11), 4);
        refused(x, "begin without a place", STATE, x::begin);
        x.drop(2);
        x.commit(1);
        same("begin at the lowest place", x.begin(), 1);
        same("begin at the next", x.begin(), 2);
        same("begun empty", x.transaction(1, 0), 0);
        x.undo();
        same("begin undone", x.transaction(2, 0), -1);
    }

    // Promise 3

    private static void write() {
        OutboxRelay x = new OutboxRelay();
        refused(x, "write without a transaction", INDEX, () -> x.write(0, 9, 9));
        x.begin();
        x.begin();
        for (int far : FAR) {
            refused(x, "write far off", INDEX, () -> x.write(far, 0, 0));
            refused(x, "topic far off", ARGUMENT, () -> x.write(0, far, 0));
            refused(x, "value far off", ARGUMENT, () -> x.write(0, 0, far));
        }
        refused(x, "write at -1", INDEX, () -> x.write(-1, 0, 0));
        refused(x, "write at 4", INDEX, () -> x.write(4, 0, 0));
        refused(x, "topic -1", ARGUMENT, () -> x.write(0, -1, 0));
        refused(x, "topic 4", ARGUMENT, () -> x.write(0, 4, 0));
        refused(x, "value -1", ARGUMENT, () -> x.write(0, 0, -1));
        refused(x, "value 100", ARGUMENT, () -> x.write(0, 0, 100));
        same("write", x.write(1, 0, 0), 0);
        same("write", x.write(0, 3, 99), 1);
        x.drop(1);
        for (int i = 2; i < 7; i++) {
            same("write after a drop", x.write(0, 0, 1), i);
        }
        refused(x, "a seventh row", STATE, () -> x.write(0, 0, 1));
        refused(x, "a seventh row with a wrong topic", ARGUMENT, () -> x.write(0, 4, 1));
        x.undo();
        same("write undone", x.count(1), 6);
        same("write again", x.write(0, 0, 2), 6);
        same("sum", x.transaction(0, 2), 105);
    }

    // Promise 4

    private static void commit() {
        OutboxRelay x = new OutboxRelay();
        refused(x, "commit without a transaction", INDEX, () -> x.commit(0));
        for (int place : new int[] {-1, 4, FAR[0], FAR[1]}) {
            refused(x, "commit at no place", INDEX, () -> x.commit(place));
        }
        x.begin();
        same("commit without rows", x.commit(0), 0);
        same("place is free", x.transaction(0, 0), -1);
        for (int i = 0; i < 9; i++) {
            commitRows(x, 0, 1, 0, 1, 0, 1, 0, 1, 0, 1, 0, 1);
        }
        commitRows(x, 0, 1, 0, 1, 0, 1, 0, 1, 0, 1);
        x.begin();
        x.write(0, 0, 1);
        x.begin();
        x.write(1, 0, 1);
        x.write(1, 0, 1);
        refused(x, "61 rows", STATE, () -> x.commit(1));
        same("60 rows", x.commit(0), 60);
        x.begin();
        same("60 rows and none", x.commit(0), 60);
        refused(x, "62 rows", STATE, () -> x.commit(1));
        x.undo();
        x.undo();
        x.undo();
        same("commit undone", x.count(3), 59);
        same("its row is in the transaction", x.transaction(0, 0), 1);
        same("and no other call", x.transaction(1, 0), 2);
    }

    private static void commitInOtherOrders() {
        OutboxRelay x = new OutboxRelay();
        for (int r = 0; r < 3; r++) {
            x.want(r, 0);
        }
        for (int i = 0; i < 33; i++) {
            commitRows(x, 0, 1, 0, 1, 0, 1, 0, 1, 0, 1, 0, 1);
            x.sweep();
        }
        x.begin();
        x.write(0, 0, 1);
        x.write(0, 0, 1);
        x.write(0, 0, 1);
        refused(x, "201 rows ever", STATE, () -> x.commit(0));
        x.drop(0);
        commitRows(x, 0, 1, 0, 1);
        same("200 rows ever", x.count(2), 200);
        same("kept of them", x.count(3), 2);
        x.begin();
        same("none more", x.commit(0), 2);
        x.begin();
        x.write(0, 0, 1);
        refused(x, "one more", STATE, () -> x.commit(0));

        OutboxRelay y = relayWith(0, 1);
        y.begin();
        y.begin();
        y.write(0, 1, 10);
        y.write(1, 2, 20);
        y.write(0, 3, 30);
        same("commit the later one", y.commit(1), 1);
        same("commit the earlier one", y.commit(0), 3);
        int[][] due = {{0, 0, 1, 1, 10}, {1, 1, 0, 2, 20}, {2, 2, 2, 3, 30}};
        for (int rank = 0; rank < 3; rank++) {
            for (int what = 0; what < 5; what++) {
                same("rows by writing " + rank + ", " + what, y.row(rank, what), due[rank][what]);
            }
        }
    }

    /** The numbers of the rows that are kept, as digits of a number behind a 1. */
    private static int numbersOf(OutboxRelay x) {
        int digits = 1;
        for (int rank = 0; rank < x.count(3); rank++) {
            digits = 10 * digits + x.row(rank, 0);
        }
        return digits;
    }

    private static void commitBetween() {
        OutboxRelay x = relayWith(0, 1);
        x.begin();
        x.begin();
        x.begin();
        int[] places = {1, 0, 2, 1, 2, 0, 2, 1};
        for (int place : places) {
            x.write(place, 0, 1);
        }
        x.commit(2);
        same("rows by writing", numbersOf(x), 1246);
        x.commit(0);
        same("with more", numbersOf(x), 112456);
        x.commit(1);
        same("with all", numbersOf(x), 101234567);
        same("commit numbers", x.row(0, 2) * 100 + x.row(1, 2) * 10 + x.row(7, 2), 537);
    }

    // Promise 5

    private static void drop() {
        OutboxRelay x = new OutboxRelay();
        refused(x, "drop without a transaction", INDEX, () -> x.drop(0));
        for (int place : new int[] {-1, 4, FAR[0], FAR[1]}) {
            refused(x, "drop at no place", INDEX, () -> x.drop(place));
        }
        x.begin();
        same("drop without rows", x.drop(0), 0);
        x.begin();
        x.write(0, 1, 2);
        x.write(0, 1, 2);
        same("drop", x.drop(0), 2);
        same("rows written", x.count(1), 2);
        same("rows kept", x.count(3), 0);
        same("saved states", x.count(11), 6);
        x.undo();
        same("drop undone", x.transaction(0, 2), 4);
    }

    // Promise 6

    private static void want() {
        OutboxRelay x = new OutboxRelay();
        for (int r : new int[] {-1, 3, FAR[0], FAR[1]}) {
            refused(x, "want of no receiver", INDEX, () -> x.want(r, 16));
        }
        for (int topics : new int[] {-1, 16, FAR[0], FAR[1]}) {
            refused(x, "topics out of range", ARGUMENT, () -> x.want(0, topics));
        }
        same("want", x.want(2, 5), 15);
        same("want again", x.want(2, 0), 5);
        same("wanted", x.receiver(2, 0), 0);
        x.undo();
        same("want undone", x.receiver(2, 0), 5);
        commitRows(x, 0, 1, 1, 2, 2, 4, 3, 8);
        same("rows for it", x.receiver(2, 10), 2);
        x.want(1, 8);
        same("a batch of two, one and three", x.pass(3), 6);
        same("sum of topics 0 and 2", x.receiver(2, 4), 5);
        same("sum of topic 3", x.receiver(1, 4), 8);
        OutboxRelay y = new OutboxRelay();
        commitRows(y, 0, 7);
        y.pass(1);
        y.want(0, 14);
        same("an effect also if it is not wanted any more", y.pass(2), 3);
        same("its sum", y.receiver(0, 4), 7);
        same("the sum that it should have", y.receiver(0, 12), 0);
    }

    // Promise 7

    private static void pass() {
        OutboxRelay x = new OutboxRelay();
        for (int ticks : new int[] {0, -1, 100, FAR[0], FAR[1]}) {
            refused(x, "pass of " + ticks, ARGUMENT, () -> x.pass(ticks));
        }
        same("pass without rows", x.pass(99), 0);
        commitRows(x, 0, 1, 1, 2, 2, 3, 3, 4);
        same("sent", x.pass(1), 0);
        same("three batches", x.count(8), 3);
        same("not yet there", x.pass(1), 0);
        same("there", x.pass(1), 9);
        same("awaited", x.receiver(0, 9), 1);
        same("answers have not come", x.receiver(1, 8), -1);
        same("answers come", x.pass(1) + x.pass(1), 0);
        same("answer mark", x.receiver(1, 8), 2);
        same("the next batches go in the same tick", x.count(8), 6);
        same("the rest", x.pass(2), 3);
        same("sum", x.receiver(2, 4), 10);
        same("ticks", x.count(0), 106);
        x.pass(2);
        same("awaited no more", x.receiver(0, 9), 0);
        same("all is sent", x.pass(20), 0);
        same("messages", x.count(5), 12);
        x.undo();
        x.undo();
        x.undo();
        same("pass undone, as one call", x.count(0), 104);
        same("and its effects", x.receiver(2, 4), 6);
    }

    private static void passSendsAgain() {
        OutboxRelay x = relayWith(WAIT, 3, TICKS, 2);
        commitRows(x, 0, 5);
        x.pass(3);
        same("sent once", x.count(8), 3);
        x.pass(1);
        same("sent again", x.count(8), 6);
        x.pass(1);
        same("answered", x.receiver(0, 8), 0);
        same("by the first answer", x.receiver(0, 9), 0);
        x.pass(1);
        same("a repeat by the mark", x.receiver(0, 5), 1);
        same("no second effect", x.receiver(0, 6), 0);
        x.pass(20);
        same("no more is sent", x.count(8), 6);
        same("answers of both", x.count(9), 6);
        OutboxRelay y = relayWith(WAIT, 4, TICKS, 2);
        commitRows(y, 0, 5);
        y.pass(20);
        same("an answer in the last tick is in time", y.count(8), 3);
        OutboxRelay z = relayWith(WAIT, 20, TICKS, 9, ROWS, 1);
        commitRows(z, 0, 5, 0, 6);
        z.pass(18);
        same("waits for the answer", z.count(8), 3);
        z.pass(1);
        same("and sends the next row", z.count(8), 6);
        z.set(WAIT, 1);
        z.set(ROWS, 8);
        commitRows(z, 0, 7);
        z.pass(1);
        same("the rows above the answer mark", z.message(5, 3), 2);
        z.set(WAIT, 20);
        z.pass(17);
        same("an answer below the greatest in the latest batch", z.receiver(0, 8), 1);
        same("does not end the wait", z.receiver(0, 9), 1);
        same("and nothing is sent", z.count(8), 9);
    }

    private static void passLosesAnswers() {
        OutboxRelay x = relayWith(LOSS, 2);
        commitRows(x, 3, 9);
        same("the second of three gets lost", x.pass(1), 0);
        same("sent", x.count(5), 3);
        same("lost", x.count(6), 1);
        same("on their way", x.count(7), 2);
        same("the others come", x.pass(2), 2);
        same("one of two answers is lost", x.count(6), 2);
        same("awaited, also without a message", x.receiver(1, 9), 1);
        x.want(0, 0);
        same("the row was sent to it", x.row(0, 7), 3);
        x.undo();
        x.pass(4);
        same("sent again to the two whose answers did not come", x.count(8), 5);
    }

    private static void passWithMemory() {
        OutboxRelay x = relayWith(BY_MARK, 0, MEMORY, 1, WAIT, 1);
        commitRows(x, 0, 4, 0, 6);
        same("effects", x.pass(3), 6);
        same("effects again, for what is forgotten", x.pass(1), 6);
        same("second effects", x.receiver(0, 6), 2);
        same("out of order", x.receiver(0, 7), 1);
        same("sum", x.receiver(0, 4), 20);
        same("sum that it should have", x.receiver(0, 12), 10);
        same("remembered", x.receiver(0, 2), 1);

        OutboxRelay y = relayWith(BY_MARK, 0, MEMORY, 5, ROWS, 8);
        commitRows(y, 0, 1, 0, 1, 0, 1, 0, 1, 0, 1);
        y.pass(10);
        same("five are remembered", y.receiver(1, 2), 5);
        y.set(MEMORY, 3);
        same("so they are with a smaller memory", y.receiver(1, 2), 5);
        commitRows(y, 0, 1);
        y.pass(10);
        same("one alone is forgotten", y.receiver(1, 2), 5);

        OutboxRelay z = relayWith(BY_MARK, 0, MEMORY, 2, ROWS, 2, WAIT, 1);
        commitRows(z, 0, 1, 0, 2);
        z.pass(4);
        same("repeats by the memory", z.receiver(0, 5), 2);
        same("no second effect", z.receiver(0, 6), 0);
    }

    private static void passWithTheGreatestMemory() {
        Step full = inTurn(with(BY_MARK, 0, MEMORY, 20, ROWS, 8), x -> commitMany(x, 24), passing(12));
        int[] latest = new int[20];
        for (int i = 0; i < 20; i++) {
            latest[i] = i + 4;
        }
        sameDigest("the latest twenty", full, false, "", latest);
        OutboxRelay x = after(full);
        same("twenty are remembered", x.receiver(1, 2), 20);
        x.sweep();
        x.undo();
        long before = x.digest();
        obeyed(x, "b;w00=1;c0;t5");
        x.undo();
        same("and remembered when another one is undone", x.digest(), before);
    }

    private static void passOutOfOrder() {
        OutboxRelay x = relayWith(0, 1, BY_MARK, 0);
        x.begin();
        x.begin();
        x.write(0, 0, 1);
        x.write(1, 0, 2);
        x.commit(1);
        x.pass(2);
        x.commit(0);
        same("row 1 alone was sent", x.pass(1), 3);
        same("the mark", x.receiver(0, 1), 1);
        x.lose();
        x.lose();
        x.lose();
        x.pass(4);
        same("both are sent", x.message(0, 3), 2);
        same("one has its effect", x.pass(2), 3);
        same("out of order", x.receiver(0, 7), 1);
        same("no second one", x.receiver(0, 6), 0);
        same("a repeat", x.receiver(0, 5), 1);
        same("the mark stays", x.receiver(0, 1), 1);

        OutboxRelay y = relayWith(0, 1);
        y.begin();
        y.begin();
        y.write(0, 0, 1);
        y.write(1, 0, 2);
        y.commit(1);
        y.pass(3);
        y.commit(0);
        y.lose();
        y.lose();
        y.lose();
        same("by the mark no effect", y.pass(10), 0);
        same("two repeats", y.receiver(0, 5), 2);
        same("what it should have", y.receiver(0, 12), 3);
        same("what it has", y.receiver(0, 4), 2);
    }

    private static void passWithOtherTicks() {
        OutboxRelay x = relayWith(TICKS, 9, ROWS, 1, WAIT, 1);
        commitRows(x, 0, 1);
        x.pass(1);
        x.set(TICKS, 1);
        x.pass(1);
        same("the second ones come first", x.message(0, 2), 1);
        same("the first ones as it was then", x.message(3, 2), 8);
        same("the second ones have effects", x.pass(1), 3);
        x.set(WAIT, 20);
        same("the first ones are repeats", x.pass(8), 0);
        same("repeats", x.receiver(2, 5), 2);

        OutboxRelay y = relayWith(TICKS, 3, WAIT, 1, LOSS, 4);
        commitRows(y, 0, 1);
        y.pass(2);
        y.set(TICKS, 2);
        y.pass(1);
        same("as they were sent", y.message(0, 2), 1);
        same("receiver 0 first", y.message(0, 1) + 10 * y.message(1, 1) + 100 * y.message(2, 1), 210);
        same("due in one tick, by sending", y.message(3, 2) * 10 + y.message(4, 2), 22);
    }

    private static void passWithAllMessages() {
        OutboxRelay x = relayWith(TICKS, 9, WAIT, 1, ROWS, 1);
        commitRows(x, 0, 1, 0, 1, 0, 1);
        x.pass(18);
        same("all that can be on their way", x.count(7), 54);
        same("effects and answers in one tick", x.pass(1), 0);
        same("as many again", x.count(7), 54);
        same("the last one", x.message(53, 2) * 10 + x.message(53, 1), 92);
        same("batches", x.count(8), 57);
        same("answers", x.count(9), 3);
        same("drained", x.pass(99) + x.drainIn(), 6);
    }

    // Promise 8

    private static void lose() {
        OutboxRelay x = new OutboxRelay();
        refused(x, "lose without a message", STATE, x::lose);
        commitRows(x, 0, 1);
        x.pass(1);
        same("lose", x.lose(), 2);
        same("lost", x.count(6), 1);
        same("the first one is lost", x.message(0, 1), 1);
        same("the others have effects", x.pass(2), 2);
        same("the lost one has none", x.receiver(0, 3), 0);
        same("lose an answer", x.lose(), 1);
        x.undo();
        same("lose undone", x.count(7) * 10 + x.count(6), 21);
        x.lose();
        same("lose the last", x.lose(), 0);
        refused(x, "lose one more", STATE, x::lose);
        OutboxRelay y = relayWith(TICKS, 5, WAIT, 1);
        commitRows(y, 0, 1);
        y.pass(1);
        y.set(TICKS, 1);
        y.pass(1);
        y.lose();
        same("that one is lost that comes first", y.message(2, 2), 4);
        same("and not the one that was sent first", y.message(0, 1), 1);
    }

    // Promise 9

    private static void sweep() {
        OutboxRelay x = new OutboxRelay();
        same("sweep without rows", x.sweep(), 0);
        same("saves a state", x.count(11), 1);
        commitRows(x, 0, 1, 1, 2, 0, 3, 1, 4);
        x.pass(4);
        same("nothing is answered", x.sweep(), 0);
        x.want(0, 1);
        x.want(1, 1);
        x.want(2, 1);
        same("not wanted is answered", x.sweep(), 2);
        same("the others stay", x.row(1, 0), 2);
        x.pass(1);
        same("answered", x.sweep(), 2);
        same("swept so far", x.count(4), 4);
        same("kept", x.count(3), 0);
        x.undo();
        same("sweep undone", x.count(3) * 10 + x.count(4), 22);
        OutboxRelay y = new OutboxRelay();
        commitRows(y, 0, 1);
        y.pass(5);
        y.want(2, 14);
        y.sweep();
        same("what it should have, also of swept rows", y.receiver(0, 12), 1);
        commitRows(y, 0, 1);
        y.pass(1);
        y.lose();
        y.lose();
        y.pass(20);
        same("one by one", y.sweep(), 1);
    }

    // Promise 10

    private static void set() {
        OutboxRelay x = new OutboxRelay();
        for (int setting : new int[] {-1, 7, FAR[0], FAR[1]}) {
            refused(x, "set " + setting, INDEX, () -> x.set(setting, -5));
        }
        int[] least = {0, 1, 1, 1, 0, 0, 1};
        int[] most = {1, 9, 8, 20, 9, 1, 20};
        for (int i = 0; i < 7; i++) {
            int setting = i;
            for (int value : new int[] {least[i] - 1, most[i] + 1, FAR[0], FAR[1]}) {
                refused(x, "set " + i + " to " + value, ARGUMENT, () -> x.set(setting, value));
            }
            int before = x.setting(i);
            same("set to the least", x.set(i, least[i]), before);
            same("set to the most", x.set(i, most[i]), least[i]);
            same("is set", x.setting(i), most[i]);
        }
        refused(x, "lose every message", ARGUMENT, () -> x.set(LOSS, 1));
        same("lose every second", x.set(LOSS, 2), 9);
        x.undo();
        same("set undone", x.setting(LOSS), 9);
        x.begin();
        x.commit(0);
        same("the numbers, without rows committed", x.set(0, 0), 1);
        commitRows(x, 0, 0);
        refused(x, "the numbers of committed rows", STATE, () -> x.set(0, 1));
        refused(x, "the numbers as they are", STATE, () -> x.set(0, 0));
        refused(x, "no such numbers", ARGUMENT, () -> x.set(0, 2));
        same("other settings", x.set(1, 3), 9);
        x.want(0, 0);
        x.want(1, 0);
        x.want(2, 0);
        x.sweep();
        refused(x, "the numbers of swept rows", STATE, () -> x.set(0, 1));
    }

    // Promise 11

    private static void append() {
        OutboxRelay x = new OutboxRelay();
        for (int code : new int[] {32, 127, 0, -1, FAR[0], FAR[1]}) {
            refused(x, "append " + code, ARGUMENT, () -> x.append(code));
        }
        same("append", x.append(33), 1);
        same("append", x.append(126), 2);
        same("append saves no state", x.count(11), 0);
        for (int i = 3; i <= 60; i++) {
            same("append", x.append('b'), i);
        }
        refused(x, "a 61st character", STATE, () -> x.append('b'));
        refused(x, "a wrong 61st character", ARGUMENT, () -> x.append(32));
    }

    // Promise 12

    private static void clearBuffer() {
        OutboxRelay x = new OutboxRelay();
        long before = x.digest();
        type(x, "b;b");
        same("clearBuffer", x.clearBuffer(), 3);
        same("cleared", x.digest(), before);
        same("clearBuffer again", x.clearBuffer(), 0);
        type(x, "s");
        same("begins anew", x.obey(), 1);
    }

    // Promise 13

    private static int errorIn(String text) {
        OutboxRelay x = new OutboxRelay();
        type(x, text);
        return x.firstError();
    }

    private static void firstError() {
        String[] fine = {"b", "w", "w0", "w03", "w03=", "w03=0", "w03=9", "w30=99", "c", "c3", "d", "d0", "t", "t1",
            "t99", "s", "s;", "b;b;w00=1;c0;t5;s", "b;w00=10;", "t10"};
        for (String text : fine) {
            same("no error in " + text, errorIn(text), text.length());
        }
        // The "!" stands before the error and is no part of the text.
        String[] wrong = {"!;", "!B", "b!b", "b;!;", "!0", "w!4", "w!x", "w0!4", "w00!0", "w00=!x", "w00=0!0", "w00=0!5",
            "w00=12!3", "c!4", "c!;", "c0!0", "d!4", "d!b", "t!0", "t!;", "t5!s", "t12!3", "s!0", "!=", "t9;t!t", "w00=!;",
            "w!/", "w0!:", "t1!:", "t1!/", "t!:", "w00=!/", "b;b;w00=1;c0;t5;s!b"};
        for (String text : wrong) {
            String plain = text.replace("!", "");
            same("error in " + plain, errorIn(plain), text.indexOf('!'));
        }
        same("errors of any length", errorIn("b;b;b;b;b;b;b;b;b;b;b;b;b;b;b;b;b;b;b;b;b;b;b;b;b;b;b;b;b;w0"), 60);
        same("nothing is no error", errorIn(""), 0);
    }

    // Promise 14

    private static void obey() {
        OutboxRelay x = new OutboxRelay();
        for (String text : new String[] {"", "b;", "w00", "w00=", "t", "c", "w00=05", "x", "t0", "b;;b"}) {
            x.clearBuffer();
            type(x, text);
            refused(x, "obey " + text, ARGUMENT, x::obey);
        }
        same("begin, write, commit, pass", obeyed(x, "b;w00=7;w01=12;c0;t3"), 5);
        same("buffer is clear", x.clearBuffer(), 0);
        same("sum", x.receiver(0, 4), 19);
        same("one saved state", x.count(11), 1);
        same("begin and drop", obeyed(x, "b;b;w10=5;d1"), 4);
        same("one is open", x.count(10), 1);
        same("rows written", x.count(1), 3);
        same("pass and sweep", obeyed(x, "t2;s"), 2);
        same("swept", x.count(4), 2);
        same("up to the one that throws", obeyed(x, "c0;c0;t9"), 1);
        same("no ticks", x.count(0), 5);
        same("none is done", obeyed(x, "d3;t99"), 0);
        same("it is saved too", x.count(11), 5);
        same("too many begun", obeyed(x, "b;b;b;b;b;s"), 4);
        same("too many rows", obeyed(x, "w30=1;w30=1;w30=1;w30=1;w30=1;w30=1;w30=1;s"), 6);
        same("no transaction there", obeyed(x, "d1;w10=1"), 1);
        type(x, "zz");
        x.undo();
        same("undone as one call", x.transaction(1, 0), 0);
        same("the buffer stays", x.clearBuffer(), 2);
        x.undo();
        same("rows undone", x.transaction(3, 0), 0);
        same("two digits", obeyed(x, "t99"), 1);
        same("ticks", x.count(0), 104);
        obeyed(x, "w00=90;w01=9;w02=0");
        same("values", x.transaction(0, 2), 99);
        OutboxRelay y = new OutboxRelay();
        for (int i = 0; i < 10; i++) {
            commitRows(y, 0, 1, 0, 1, 0, 1, 0, 1, 0, 1, 0, 1);
        }
        same("too many kept", obeyed(y, "b;c0;b;w00=1;c0;s"), 4);
    }

    // Promises 15 and 16

    private static void keepAndGoBack() {
        OutboxRelay x = new OutboxRelay();
        refused(x, "goBack without a snapshot", STATE, x::goBack);
        x.pass(3);
        same("keep", x.keep(), 3);
        same("keep saves no state", x.count(11), 1);
        commitRows(x, 1, 8);
        x.set(TICKS, 1);
        x.want(0, 3);
        x.pass(5);
        type(x, "ab");
        same("goBack", x.goBack(), 3);
        same("rows are gone", x.count(2) + x.count(1) + x.count(5), 0);
        same("settings are back", x.setting(TICKS), 2);
        same("topics are back", x.receiver(0, 0), 15);
        same("goBack saves a state", x.count(11), 6);
        same("the buffer stays", x.clearBuffer(), 2);
        x.undo();
        same("goBack undone", x.count(0), 8);
        same("with rows", x.receiver(1, 4), 8);
        same("the snapshot stays", x.goBack(), 3);
        x.pass(4);
        same("a later snapshot", x.keep(), 7);
        x.pass(1);
        same("in place of the one that was", x.goBack(), 7);
        x.undo();
        x.undo();
        x.undo();
        same("undo does not touch it", x.goBack(), 7);
        OutboxRelay y = relayWith(ROWS, 1);
        commitRows(y, 0, 1, 0, 2);
        y.pass(1);
        y.keep();
        y.pass(30);
        y.goBack();
        y.pass(4);
        same("what the relay waits for is back", y.count(8), 6);
    }

    // Promise 17

    private static void undo() {
        OutboxRelay x = new OutboxRelay();
        refused(x, "undo without a saved state", STATE, x::undo);
        for (int i = 1; i <= 8; i++) {
            x.pass(i);
        }
        same("six are saved", x.count(11), 6);
        int[] ticks = {28, 21, 15, 10, 6, 3};
        for (int i = 0; i < 6; i++) {
            same("undo", x.undo(), 5 - i);
            same("ticks", x.count(0), ticks[i]);
        }
        refused(x, "a seventh undo", STATE, x::undo);
        OutboxRelay y = new OutboxRelay();
        obeyed(y, "b;w00=1;w01=2;w02=3;w03=4;c0");
        y.set(BY_MARK, 0);
        y.pass(4);
        long before = y.digest();
        y.pass(30);
        y.undo();
        same("all is as it was", y.digest(), before);
        y.sweep();
        y.undo();
        y.want(1, 2);
        y.undo();
        y.lose();
        y.undo();
        y.begin();
        y.undo();
        same("again as it was", y.digest(), before);
    }

    private static void undoOfContents() {
        OutboxRelay x = new OutboxRelay();
        obeyed(x, "b;w01=11;w02=22");
        long before = x.digest();
        obeyed(x, "d0;b;b;w13=33;w10=44;w00=5;w00=6");
        x.undo();
        same("rows of a transaction are back", x.digest(), before);
        obeyed(x, "c0;t9;s");
        long later = x.digest();
        x.undo();
        same("before they were committed", x.digest(), before);
        obeyed(x, "w03=9;d0;b;w00=1;w00=2;c0;b;w03=3;c0;t9");
        x.undo();
        same("once more", x.digest(), before);
        obeyed(x, "c0");
        same("committed anew, without effects", x.row(0, 5) + x.row(1, 5), 0);
        same("and not sent", x.row(0, 7), 1);
        x.undo();
        same("the same orders bring the same", obeyed(x, "c0;t9;s"), 3);
        same("in all", x.digest(), later);
        x.keep();
        long kept = x.digest();
        obeyed(x, "b;w00=1;c0;t2");
        x.goBack();
        x.undo();
        x.undo();
        same("before and behind the snapshot", x.digest(), kept);

        OutboxRelay y = relayWith(BY_MARK, 0, MEMORY, 1, WAIT, 1);
        obeyed(y, "b;w00=4;w00=6;c0;t4");
        y.clearBuffer();
        long twice = y.digest();
        same("out of order", y.receiver(1, 7), 1);
        y.pass(7);
        y.undo();
        same("effects and what is counted of them are back", y.digest(), twice);
    }

    private static void goBackToOtherRows() {
        Step kept = inTurn(with(LOSS, 4), obeying("b;b;b;w10=1;w02=2;c0;w21=7;w23=8;t5;b;w03=44;c0;c1;t1"),
            OutboxRelay::keep);
        Step before = inTurn(kept, OutboxRelay::undo);
        Step other = inTurn(before, obeying("b;b;b;w12=3;w11=4;w13=5;c1;w20=6;c2;w00=50;t5"));
        Step back = inTurn(other, OutboxRelay::goBack);
        Step undone = inTurn(back, OutboxRelay::undo);
        Step twice = inTurn(undone, OutboxRelay::undo);
        Step again = inTurn(twice, OutboxRelay::goBack);
        same("rows as in the snapshot", stateAfter(back), stateAfter(kept));
        same("and as they were", stateAfter(undone), stateAfter(other));
        same("and before them", stateAfter(twice), stateAfter(before));
        same("rows as in the snapshot again", stateAfter(again), stateAfter(kept));
        Step later = inTurn(again, passing(30));
        Step anew = inTurn(later, OutboxRelay::undo, passing(30));
        same("the same ticks bring the same", stateAfter(anew), stateAfter(later));
        OutboxRelay x = after(anew);
        same("another transaction in that place", obeyed(x, "d2;b;b;b;w22=1;w22=1"), 6);
        x.goBack();
        x.commit(2);
        same("topics of a transaction are back too", x.row(3, 3) * 10 + x.row(4, 3), 13);
    }

    /** All that the looks tell, but for the saved states. */
    private static List<Number> stateAfter(Step start) {
        OutboxRelay x = after(start);
        List<Number> told = new ArrayList<>();
        for (int i = 0; i < 11; i++) {
            told.add(x.count(i));
        }
        for (int i = 0; i < 7; i++) {
            told.add(x.setting(i));
        }
        for (int i = 0; i < 8 * x.count(3); i++) {
            told.add(x.row(i / 8, i % 8));
        }
        for (int i = 0; i < 24; i++) {
            told.add(i % 6 < 3 ? x.transaction(i / 6, i % 6) : x.skips(i / 6, i % 6 - 3));
        }
        for (int i = 0; i < 42; i++) {
            told.add(x.receiver(i / 14, i % 14));
        }
        for (int i = 0; i < 5 * x.count(7); i++) {
            told.add(x.message(i / 5, i % 5));
        }
        for (int i = 0; i < 12; i++) {
            told.add(x.ifPassed(20, i / 4, i % 4));
        }
        told.add(x.drainIn());
        told.add(x.goodShare());
        told.add(x.meanBatch());
        return told;
    }

    // Promise 18

    private static void row() {
        OutboxRelay x = new OutboxRelay();
        commitRows(x, 2, 50, 0, 60);
        for (int rank : new int[] {-1, 2, FAR[0], FAR[1]}) {
            refused(x, "no row " + rank, INDEX, () -> x.row(rank, -1));
        }
        for (int what : new int[] {-1, 8, FAR[0], FAR[1]}) {
            refused(x, "no number " + what, ARGUMENT, () -> x.row(0, what));
        }
        same("not sent", x.row(0, 7), 1);
        x.want(0, 1);
        x.want(1, 4);
        same("by whom it is answered", x.row(0, 6) * 10 + x.row(1, 6), 12);
        x.pass(1);
        same("sent", x.row(0, 7), 3);
        x.pass(2);
        same("with effect", x.row(0, 7), 2);
        same("on whom", x.row(0, 5) * 10 + x.row(1, 5), 65);
        x.pass(2);
        same("would be swept", x.row(0, 7), 0);
        same("answered by all", x.row(0, 6), 7);
        int[] due = {1, 1, 1, 0, 60};
        for (int what = 0; what < 5; what++) {
            same("row 1, " + what, x.row(1, what), due[what]);
        }
        OutboxRelay z = new OutboxRelay();
        commitRows(z, 0, 1);
        z.pass(1);
        z.lose();
        z.pass(2);
        same("by the lowest, on whom it had none", z.row(0, 7), 3);
        same("though it had on others", z.row(0, 5), 6);
        OutboxRelay y = relayWith(LOSS, 3);
        commitRows(y, 0, 1);
        y.pass(5);
        same("receiver 2 had none, by a lost batch", y.row(0, 7), 3);
        same("answered by 0", y.row(0, 6) & 1, 1);
    }

    // Promise 19

    private static void transaction() {
        OutboxRelay x = new OutboxRelay();
        for (int place : new int[] {-1, 4, FAR[0], FAR[1]}) {
            refused(x, "no place " + place, INDEX, () -> x.transaction(place, 9));
        }
        for (int what : new int[] {-1, 3, FAR[0], FAR[1]}) {
            refused(x, "no number " + what, ARGUMENT, () -> x.transaction(0, what));
        }
        same("none at the place", x.transaction(3, 0), -1);
        same("none at the place", x.transaction(3, 2), -1);
        x.begin();
        same("no rows", x.transaction(0, 0), 0);
        same("no first row", x.transaction(0, 1), -1);
        same("no sum", x.transaction(0, 2), 0);
        x.begin();
        x.write(1, 0, 1);
        x.write(0, 0, 40);
        x.write(0, 3, 2);
        same("rows", x.transaction(0, 0), 2);
        same("first row", x.transaction(0, 1), 1);
        same("sum", x.transaction(0, 2), 42);
        x.drop(0);
        same("dropped", x.transaction(0, 1), -1);
    }

    // Promise 20

    private static void receiver() {
        OutboxRelay x = new OutboxRelay();
        for (int r : new int[] {-1, 3, FAR[0], FAR[1]}) {
            refused(x, "no receiver " + r, INDEX, () -> x.receiver(r, 20));
        }
        for (int what : new int[] {-1, 14, FAR[0], FAR[1]}) {
            refused(x, "no number " + what, ARGUMENT, () -> x.receiver(0, what));
        }
        commitRows(x, 0, 1, 1, 2, 2, 4, 3, 8, 0, 16);
        x.want(1, 6);
        x.pass(3);
        int[] due = {6, 2, 2, 2, 6, 0, 0, 0, -1, 1, 2, 0, 6, 1};
        for (int what = 0; what < due.length; what++) {
            same("receiver 1, " + what, x.receiver(1, what), due[what]);
        }
        x.pass(2);
        int[] later = {15, 2, 3, 3, 7, 0, 0, 0, 2, 1, 2, 0, 7, 1};
        for (int what = 0; what < later.length; what++) {
            same("receiver 2, " + what, x.receiver(2, what), later[what]);
        }
        same("awaits no answer", x.receiver(1, 9), 0);
        x.want(2, 1);
        same("what it should have goes by what it wants now", x.receiver(2, 12), 1);
        x.pass(2);
        same("by its mark", x.receiver(2, 12), 17);
        same("remembers four", x.receiver(2, 2), 4);
        same("messages of it", x.receiver(2, 13), 1);
        OutboxRelay y = relayWith(WAIT, 1);
        commitRows(y, 0, 1);
        y.pass(3);
        for (int r = 0; r < 3; r++) {
            same("an answer and two batches", y.receiver(r, 13), 3);
        }
        y.lose();
        same("one less", y.receiver(0, 13) * 10 + y.receiver(1, 13), 23);
    }

    private static void receiverLost() {
        OutboxRelay x = relayWith(0, 1);
        x.begin();
        x.begin();
        x.write(0, 0, 1);
        x.write(0, 1, 1);
        x.write(1, 0, 2);
        x.commit(1);
        x.pass(5);
        x.commit(0);
        x.want(1, 1);
        same("skipped rows", x.receiver(0, 10), 0);
        same("are not lost before they are swept", x.receiver(0, 11), 0);
        same("swept", x.sweep(), 3);
        same("lost for 0", x.receiver(0, 11), 2);
        same("lost for 1, who wants one of them", x.receiver(1, 11), 1);
        x.want(1, 0);
        same("so far", x.receiver(1, 11), 1);
        x.undo();
        x.undo();
        same("undone", x.receiver(0, 11), 0);
    }

    // Promise 21

    private static void message() {
        OutboxRelay x = relayWith(TICKS, 3);
        commitRows(x, 0, 1, 0, 2, 0, 3, 0, 4);
        x.want(1, 0);
        x.pass(1);
        for (int rank : new int[] {-1, 2, FAR[0], FAR[1]}) {
            refused(x, "no message " + rank, INDEX, () -> x.message(rank, -1));
        }
        for (int what : new int[] {-1, 5, FAR[0], FAR[1]}) {
            refused(x, "no number " + what, ARGUMENT, () -> x.message(0, what));
        }
        int[] batch = {0, 2, 3, 3, 2};
        for (int what = 0; what < 5; what++) {
            same("a batch, " + what, x.message(1, what), batch[what]);
        }
        x.set(TICKS, 1);
        x.want(1, 1);
        x.pass(1);
        same("three", x.count(7), 3);
        int[] sooner = {0, 1, 1, 3, 2};
        for (int what = 0; what < 5; what++) {
            same("one that comes first, " + what, x.message(0, what), sooner[what]);
        }
        same("one that comes later", x.message(2, 2), 2);
        x.pass(1);
        int[] answer = {1, 1, 1, 0, 2};
        for (int what = 0; what < 5; what++) {
            same("an answer, behind those that were sent before, " + what, x.message(2, what), answer[what]);
        }
    }

    // Promise 22

    private static void count() {
        OutboxRelay x = relayWith(LOSS, 5);
        for (int what : new int[] {-1, 12, FAR[0], FAR[1]}) {
            refused(x, "no count " + what, ARGUMENT, () -> x.count(what));
        }
        commitRows(x, 0, 1, 1, 2);
        x.begin();
        x.begin();
        x.write(1, 0, 1);
        x.drop(0);
        x.pass(5);
        x.want(0, 8);
        x.want(1, 8);
        x.want(2, 1);
        x.sweep();
        commitRows(x, 3, 9);
        x.set(LOSS, 0);
        x.pass(1);
        x.lose();
        int[] due = {6, 4, 3, 1, 2, 7, 2, 0, 4, 2, 1, 6};
        for (int what = 0; what < due.length; what++) {
            same("count " + what, x.count(what), due[what]);
        }
    }

    // Promise 23

    private static void setting() {
        OutboxRelay x = new OutboxRelay();
        for (int setting : new int[] {-1, 7, FAR[0], FAR[1]}) {
            refused(x, "no setting " + setting, INDEX, () -> x.setting(setting));
        }
        for (int i = 0; i < 7; i++) {
            x.set(i, 1 + (i == 4 ? 1 : 0));
            same("setting " + i, x.setting(i), i == 4 ? 2 : 1);
        }
    }

    // Promise 24

    private static void drainIn() {
        OutboxRelay x = new OutboxRelay();
        same("nothing to send", x.drainIn(), 0);
        commitRows(x, 0, 1, 0, 1, 0, 1, 0, 1);
        long before = x.digest();
        same("two batches", x.drainIn(), 9);
        same("nothing is changed", x.digest(), before);
        x.pass(8);
        same("one tick more", x.drainIn(), 1);
        x.pass(1);
        same("drained", x.drainIn(), 0);
        OutboxRelay one = new OutboxRelay();
        one.want(0, 0);
        one.want(1, 0);
        commitRows(one, 0, 1);
        one.pass(1);
        one.want(2, 0);
        same("a message on its way, but no rows", one.drainIn(), 4);
        OutboxRelay y = relayWith(WAIT, 1);
        commitRows(y, 0, 1);
        same("with those that are sent again", y.drainIn(), 8);
        OutboxRelay z = relayWith(ROWS, 1);
        for (int i = 0; i < 10; i++) {
            commitRows(z, 0, 1, 0, 1, 0, 1, 0, 1, 0, 1, 0, 1);
        }
        z.set(TICKS, 2);
        same("60 batches of four ticks", z.drainIn(), 241);
        z.set(TICKS, 3);
        same("60 batches of six ticks", z.drainIn(), -1);
        z.pass(61);
        same("exactly 300 ticks", z.drainIn(), 300);
        z.undo();
        z.pass(60);
        same("301 ticks", z.drainIn(), -1);
        OutboxRelay w = relayWith(LOSS, 2);
        commitRows(w, 3, 9);
        same("never", w.drainIn() == -1 || w.drainIn() > 5, true);
    }

    // Promise 25

    private static void ifPassed() {
        OutboxRelay x = relayWith(BY_MARK, 0, MEMORY, 1, WAIT, 1);
        for (int r : new int[] {-1, 3, FAR[0], FAR[1]}) {
            refused(x, "ifPassed of no receiver", INDEX, () -> x.ifPassed(0, r, 9));
        }
        for (int ticks : new int[] {0, -1, 100, FAR[0], FAR[1]}) {
            refused(x, "ifPassed in no ticks", ARGUMENT, () -> x.ifPassed(ticks, 0, 0));
        }
        for (int what : new int[] {-1, 4, FAR[0], FAR[1]}) {
            refused(x, "ifPassed of no number", ARGUMENT, () -> x.ifPassed(1, 0, what));
        }
        commitRows(x, 0, 4, 0, 6);
        x.pass(3);
        long before = x.digest();
        same("effects in them", x.ifPassed(1, 1, 0), 2);
        same("second effects", x.ifPassed(1, 1, 2), 2);
        same("effects in more", x.ifPassed(2, 1, 0), 4);
        same("answer mark", x.ifPassed(1, 1, 3), -1);
        same("answer mark then", x.ifPassed(2, 1, 3), 1);
        same("nothing is changed", x.digest(), before);
        same("as it is", x.pass(1), 6);
        same("second effects so far", x.receiver(1, 6), 2);
        same("and in the next tick alone", x.ifPassed(1, 1, 2), 2);
        same("effects in the next tick alone", x.ifPassed(1, 1, 0), 2);
        OutboxRelay y = relayWith(WAIT, 1);
        commitRows(y, 0, 4);
        y.pass(4);
        same("repeats so far", y.receiver(2, 5), 1);
        same("repeats in them", y.ifPassed(99, 2, 1), 2);
    }

    // Promise 26

    private static void skips() {
        OutboxRelay x = relayWith(0, 1);
        for (int far : new int[] {-1, 4, FAR[0], FAR[1]}) {
            refused(x, "skips at no place", INDEX, () -> x.skips(far, 0));
            refused(x, "skips of no receiver", INDEX, () -> x.skips(0, far));
        }
        refused(x, "skips of receiver 3", INDEX, () -> x.skips(0, 3));
        same("no transaction", x.skips(3, 2), -1);
        x.begin();
        x.begin();
        x.write(0, 1, 1);
        x.write(0, 2, 1);
        x.write(1, 0, 2);
        x.write(0, 1, 1);
        x.commit(1);
        same("not yet", x.skips(0, 0), 0);
        x.pass(5);
        same("two rows", x.skips(0, 0), 2);
        x.want(0, 4);
        same("one that it wants", x.skips(0, 0), 1);
        x.begin();
        x.write(1, 2, 1);
        x.write(1, 2, 1);
        same("none of the later ones", x.skips(1, 0), 0);
        OutboxRelay z = relayWith(0, 1);
        z.begin();
        for (int i = 0; i < 6; i++) {
            z.write(0, 0, 1);
        }
        obeyed(z, "b;w10=1;c1;t5");
        same("six of them", z.skips(0, 1), 6);
        OutboxRelay y = new OutboxRelay();
        y.begin();
        y.begin();
        y.write(0, 1, 1);
        y.write(0, 1, 1);
        y.write(1, 0, 2);
        y.commit(1);
        y.pass(5);
        same("none by the order of committing", y.skips(0, 0), 0);
    }

    // Promise 27

    private static void slowest() {
        OutboxRelay x = new OutboxRelay();
        same("none is behind", x.slowest(), -1);
        commitRows(x, 3, 1);
        x.want(0, 0);
        same("one row", x.slowest(), 1);
        x.undo();
        x.want(0, 7);
        x.want(1, 7);
        x.want(2, 7);
        same("no row that any wants", x.slowest(), -1);
        x.want(0, 15);
        x.want(1, 15);
        x.want(2, 15);
        x.pass(5);
        commitRows(x, 0, 1, 1, 1, 2, 1);
        same("the lowest of several", x.slowest(), 0);
        x.want(0, 1);
        same("the one with the most", x.slowest(), 1);
        x.want(1, 0);
        same("the last", x.slowest(), 2);
        x.want(0, 0);
        x.want(2, 0);
        same("none wants any", x.slowest(), -1);
    }

    // Promise 28

    private static void goodShare() {
        OutboxRelay x = new OutboxRelay();
        same("without messages", x.goodShare(), 1.0);
        commitRows(x, 0, 1);
        x.pass(1);
        same("none lost", x.goodShare(), 1.0);
        x.lose();
        same("one of three", x.goodShare(), 2.0 / 3.0);
        x.lose();
        same("two of three", x.goodShare(), 1.0 / 3.0);
        x.lose();
        same("all lost", x.goodShare(), 0.0);
        OutboxRelay y = new OutboxRelay();
        y.want(0, 0);
        y.want(1, 0);
        commitRows(y, 0, 1, 0, 1);
        y.pass(1);
        same("one message", y.goodShare(), 1.0);
        same("one batch", y.meanBatch(), 2.0f);
        y.lose();
        same("one message, lost", y.goodShare(), 0.0);
    }

    // Promise 29

    private static void meanBatch() {
        OutboxRelay x = new OutboxRelay();
        same("without batches", x.meanBatch(), 0.0f);
        commitRows(x, 0, 1, 0, 1, 1, 1, 1, 1);
        x.want(0, 1);
        x.want(1, 2);
        x.pass(1);
        same("of two, two and three", x.meanBatch(), 7.0f / 3.0f);
        x.lose();
        same("lost ones too", x.meanBatch(), 7.0f / 3.0f);
        x.pass(10);
        same("answers are no batches", x.meanBatch() > 1.0f, true);
    }

    // Promise 30

    private static void digest() {
        Step first = with(NUMBERS, 1, BY_MARK, 0, LOSS, 7);
        Step busy = inTurn(first, obeying("b;b;w01=11;w12=22;w13=33;c1;t3;b"), OutboxRelay::keep, x -> type(x, "b;t"));
        Step later = inTurn(busy, OutboxRelay::lose, OutboxRelay::clearBuffer, passing(8));
        sameDigest("digest", first, false, "");
        sameDigest("digest on the way", busy, true, "b;t", 1, 2);
        sameDigest("digest once more", inTurn(busy, OutboxRelay::digest), true, "b;t", 1, 2);
        sameDigest("digest later", later, true, "", 1, 2);
        int[][] remembered = {{0}, {0, 1}, {0, 1, 2}, {0, 1, 2, 3}, {1, 2, 3, 4}};
        for (int rows = 1; rows <= 5; rows++) {
            int many = rows;
            Step sent = inTurn(with(ROWS, 8, TICKS, rows), x -> commitMany(x, many), passing(1));
            sameDigest("digest with " + rows + " rows in a batch", sent, false, "");
            sameDigest("and one is lost", inTurn(sent, OutboxRelay::lose), false, "");
            sameDigest("and behind it", inTurn(sent, passing(99)), false, "", remembered[rows - 1]);
        }
    }
}
