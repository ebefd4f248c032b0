/**
 * Rows of an outbox, a relay that sends them on to three receivers and may
 * send twice, and the receivers that try to tell what they did already.
 */
public final class OutboxRelay {

    public static final int NONE = -1;

    private static final int PLACES = 4;
    private static final int ROWS_OF_TRANSACTION = 6;
    private static final int TOPICS = 4;
    private static final int VALUES = 100;
    private static final int KEPT_MOST = 60;
    private static final int COMMITTED_MOST = 200;
    private static final int RECEIVERS = 3;
    private static final int ALL_TOPICS = 15;
    private static final int ALL_RECEIVERS = 7;
    private static final int TICKS_MOST = 99;
    private static final int BATCH_MOST = 8;
    private static final int MEMORY_MOST = 20;
    private static final int SAVED_MOST = 6;
    private static final int SIGNS_MOST = 60;
    private static final int DRAIN_MOST = 300;
    private static final int DIGEST_TICKS = 10;

    // Three batches a tick, and each is on its way, or its answer is, for at
    // most 9 + 9 ticks.
    private static final int MESSAGES_MOST = 54;

    private static final int BY_WRITING = 0;
    private static final int MESSAGE_TICKS = 1;
    private static final int BATCH_ROWS = 2;
    private static final int WAIT_TICKS = 3;
    private static final int LOSS = 4;
    private static final int BY_MARK = 5;
    private static final int MEMORY = 6;
    private static final int SETTINGS = 7;
    private static final int[] SETTING_FIRST = {0, 2, 3, 6, 0, 1, 4};
    private static final int[] SETTING_LEAST = {0, 1, 1, 1, 0, 0, 1};
    private static final int[] SETTING_MOST = {1, 9, 8, 20, 9, 1, 20};

    private static final int COUNTS = 12;
    private static final int ROW_NUMBERS = 8;
    private static final int TRANSACTION_NUMBERS = 3;
    private static final int RECEIVER_NUMBERS = 14;
    private static final int MESSAGE_NUMBERS = 5;
    private static final int TRIAL_NUMBERS = 4;

    private final State now;
    private final State[] saved;
    private final OrderText text;
    private int savedCount;
    private State snapshot;
    private State trial;

    public OutboxRelay() {
        now = new State();
        saved = new State[SAVED_MOST];
        text = new OrderText();
        savedCount = 0;
        snapshot = null;
        trial = null;
    }

    // ---- transactions

    public int begin() throws IllegalStateException {
        int place = now.freePlace();
        if (place == NONE) {
            throw new IllegalStateException("no free place");
        }
        save();
        now.openAt(place);
        return place;
    }

    public int write(int place, int topic, int value)
            throws IndexOutOfBoundsException, IllegalArgumentException, IllegalStateException {
        if (!now.isOpen(place)) {
            throw new IndexOutOfBoundsException("no transaction");
        }
        if (!isBelow(topic, TOPICS) || !isBelow(value, VALUES)) {
            throw new IllegalArgumentException("topic or value");
        }
        if (!now.hasRoomToWrite(place)) {
            throw new IllegalStateException("transaction is full");
        }
        save();
        return now.writeAt(place, topic, value);
    }

    public int commit(int place) throws IndexOutOfBoundsException, IllegalStateException {
        if (!now.isOpen(place)) {
            throw new IndexOutOfBoundsException("no transaction");
        }
        if (!now.hasRoomToCommit(place)) {
            throw new IllegalStateException("too many rows");
        }
        save();
        now.commitAt(place);
        return now.rows.kept;
    }

    public int drop(int place) throws IndexOutOfBoundsException {
        if (!now.isOpen(place)) {
            throw new IndexOutOfBoundsException("no transaction");
        }
        save();
        return now.dropAt(place);
    }

    // ---- receivers, ticks

    public int want(int receiver, int topics) throws IndexOutOfBoundsException, IllegalArgumentException {
        if (!isBelow(receiver, RECEIVERS)) {
            throw new IndexOutOfBoundsException("no such receiver");
        }
        if (!isBelow(topics, ALL_TOPICS + 1)) {
            throw new IllegalArgumentException("topics");
        }
        save();
        Receiver who = now.receivers[receiver];
        int before = who.topics;
        who.topics = topics;
        return before;
    }

    public int pass(int ticks) throws IllegalArgumentException {
        if (!isTicks(ticks)) {
            throw new IllegalArgumentException("ticks");
        }
        save();
        return now.passTicks(ticks);
    }

    public int lose() throws IllegalStateException {
        if (now.mail.onWay == 0) {
            throw new IllegalStateException("no message");
        }
        save();
        now.mail.removeFirst();
        now.mail.lost++;
        return now.mail.onWay;
    }

    public int sweep() {
        save();
        return now.sweepRows();
    }

    public int set(int setting, int value)
            throws IndexOutOfBoundsException, IllegalArgumentException, IllegalStateException {
        if (!isBelow(setting, SETTINGS)) {
            throw new IndexOutOfBoundsException("no such setting");
        }
        if (!isSettingValue(setting, value)) {
            throw new IllegalArgumentException("value");
        }
        if (setting == BY_WRITING && now.rows.committed > 0) {
            throw new IllegalStateException("rows are committed");
        }
        save();
        int before = now.settings[setting];
        now.settings[setting] = value;
        return before;
    }

    // ---- texts, the snapshot

    public int append(int code) throws IllegalArgumentException, IllegalStateException {
        if (code < 33 || code > 126) {
            throw new IllegalArgumentException("code");
        }
        if (text.length >= SIGNS_MOST) {
            throw new IllegalStateException("buffer is full");
        }
        text.signs[text.length] = code;
        text.length++;
        return text.length;
    }

    public int clearBuffer() {
        int before = text.length;
        text.length = 0;
        return before;
    }

    public int firstError() {
        return text.errorIndex();
    }

    public int obey() throws IllegalArgumentException {
        if (!text.isComplete()) {
            throw new IllegalArgumentException("buffer");
        }
        save();
        int done = 0;
        for (int i = 0; i < text.length; i++) {
            if (text.beginsPart(i)) {
                if (!doOrder(i)) {
                    break;
                }
                done++;
            }
        }
        text.length = 0;
        return done;
    }

    public int keep() {
        if (snapshot == null) {
            snapshot = new State();
        }
        snapshot.copyFrom(now);
        return now.ticks;
    }

    public int goBack() throws IllegalStateException {
        if (snapshot == null) {
            throw new IllegalStateException("no snapshot");
        }
        save();
        now.copyFrom(snapshot);
        return now.ticks;
    }

    public int undo() throws IllegalStateException {
        if (savedCount == 0) {
            throw new IllegalStateException("no saved state");
        }
        savedCount--;
        State latest = saved[savedCount];
        if (latest != null) {
            now.copyFrom(latest);
        }
        return savedCount;
    }

    // ---- looks; nothing is changed

    public int row(int rank, int what) throws IndexOutOfBoundsException, IllegalArgumentException {
        if (!isBelow(rank, now.rows.kept)) {
            throw new IndexOutOfBoundsException("no such rank");
        }
        if (!isBelow(what, ROW_NUMBERS)) {
            throw new IllegalArgumentException("what");
        }
        return now.rowNumber(now.rows.order[rank], what);
    }

    public int transaction(int place, int what) throws IndexOutOfBoundsException, IllegalArgumentException {
        if (!isBelow(place, PLACES)) {
            throw new IndexOutOfBoundsException("no such place");
        }
        if (!isBelow(what, TRANSACTION_NUMBERS)) {
            throw new IllegalArgumentException("what");
        }
        return now.transactions[place].tell(what);
    }

    public int receiver(int receiver, int what) throws IndexOutOfBoundsException, IllegalArgumentException {
        if (!isBelow(receiver, RECEIVERS)) {
            throw new IndexOutOfBoundsException("no such receiver");
        }
        if (!isBelow(what, RECEIVER_NUMBERS)) {
            throw new IllegalArgumentException("what");
        }
        return now.receiverNumber(receiver, what);
    }

    public int message(int rank, int what) throws IndexOutOfBoundsException, IllegalArgumentException {
        if (!isBelow(rank, now.mail.onWay)) {
            throw new IndexOutOfBoundsException("no such rank");
        }
        if (!isBelow(what, MESSAGE_NUMBERS)) {
            throw new IllegalArgumentException("what");
        }
        return now.mail.queue[rank].tell(what, now.ticks);
    }

    public int count(int what) throws IllegalArgumentException {
        if (!isBelow(what, COUNTS)) {
            throw new IllegalArgumentException("what");
        }
        return what == COUNTS - 1 ? savedCount : now.counted(what);
    }

    public int setting(int setting) throws IndexOutOfBoundsException {
        if (!isBelow(setting, SETTINGS)) {
            throw new IndexOutOfBoundsException("no such setting");
        }
        return now.settings[setting];
    }

    // ---- what would be; nothing is changed

    public int drainIn() {
        State then = freshTrial();
        for (int ticks = 0; ticks < DRAIN_MOST; ticks++) {
            if (then.isDrained()) {
                return ticks;
            }
            then.passTick();
        }
        return then.isDrained() ? DRAIN_MOST : NONE;
    }

    public int ifPassed(int ticks, int receiver, int what)
            throws IndexOutOfBoundsException, IllegalArgumentException {
        if (!isBelow(receiver, RECEIVERS)) {
            throw new IndexOutOfBoundsException("no such receiver");
        }
        if (!isTicks(ticks) || !isBelow(what, TRIAL_NUMBERS)) {
            throw new IllegalArgumentException("ticks or what");
        }
        State then = freshTrial();
        then.passTicks(ticks);
        return then.receivers[receiver].sinceThen(now.receivers[receiver], what);
    }

    public int skips(int place, int receiver) throws IndexOutOfBoundsException {
        if (!isBelow(place, PLACES) || !isBelow(receiver, RECEIVERS)) {
            throw new IndexOutOfBoundsException("no such place or receiver");
        }
        return now.skipped(place, receiver);
    }

    public int slowest() {
        int found = NONE;
        int most = 0;
        for (int i = 0; i < RECEIVERS; i++) {
            int rows = now.rowsFor(i);
            if (rows > most) {
                most = rows;
                found = i;
            }
        }
        return found;
    }

    public double goodShare() {
        Mail mail = now.mail;
        return mail.sent <= 0 ? 1.0 : (double) (mail.sent - mail.lost) / (double) mail.sent;
    }

    public float meanBatch() {
        Mail mail = now.mail;
        return mail.batches <= 0 ? 0.0f : (float) mail.batchRows / (float) mail.batches;
    }

    public long digest() {
        long hash = 3623L;
        for (int i = 0; i < COUNTS; i++) {
            hash = mixed(hash, count(i));
        }
        for (int i = 0; i < SETTINGS; i++) {
            hash = mixed(hash, now.settings[i]);
        }
        hash = withRows(hash);
        hash = withPlaces(hash);
        hash = withReceivers(hash);
        hash = withMessages(hash);
        hash = mixed(hash, drainIn());
        hash = mixed(hash, slowest());
        hash = mixed(hash, bitsOf(goodShare(), 1023, 52));
        hash = mixed(hash, bitsOf((double) meanBatch(), 127, 23));
        hash = mixed(hash, snapshot == null ? 0 : 1);
        return withText(hash);
    }

    private long withRows(long start) {
        long hash = start;
        for (int rank = 0; rank < now.rows.kept; rank++) {
            for (int what = 0; what < ROW_NUMBERS; what++) {
                hash = mixed(hash, now.rowNumber(now.rows.order[rank], what));
            }
        }
        return hash;
    }

    private long withPlaces(long start) {
        long hash = start;
        for (int place = 0; place < PLACES; place++) {
            for (int what = 0; what < TRANSACTION_NUMBERS; what++) {
                hash = mixed(hash, now.transactions[place].tell(what));
            }
            for (int i = 0; i < RECEIVERS; i++) {
                hash = mixed(hash, now.skipped(place, i));
            }
        }
        return hash;
    }

    private long withReceivers(long start) {
        long hash = start;
        State then = freshTrial();
        then.passTicks(DIGEST_TICKS);
        for (int i = 0; i < RECEIVERS; i++) {
            Receiver who = now.receivers[i];
            for (int what = 0; what < RECEIVER_NUMBERS; what++) {
                hash = mixed(hash, now.receiverNumber(i, what));
            }
            for (int j = 0; j < who.remembered; j++) {
                hash = mixed(hash, who.memory[j]);
            }
            for (int what = 0; what < TRIAL_NUMBERS; what++) {
                hash = mixed(hash, then.receivers[i].sinceThen(who, what));
            }
        }
        return hash;
    }

    private long withMessages(long start) {
        long hash = start;
        for (int rank = 0; rank < now.mail.onWay; rank++) {
            for (int what = 0; what < MESSAGE_NUMBERS; what++) {
                hash = mixed(hash, now.mail.queue[rank].tell(what, now.ticks));
            }
        }
        return hash;
    }

    private long withText(long start) {
        long hash = mixed(start, text.length);
        for (int i = 0; i < text.length; i++) {
            hash = mixed(hash, text.signs[i]);
        }
        return hash;
    }

    private static long mixed(long hash, long value) {
        return 31L * hash + value;
    }

    /**
     * The bits of a number that is 0 or at least 2 to the power of -63, and
     * not below 0, in a format with this bias and this many places: the
     * language that the program keeps to has no doubleToLongBits.
     */
    private static long bitsOf(double value, int bias, int places) {
        if (!(value > 0.0)) {
            return 0L;
        }
        double scaled = value;
        long exponent = bias;
        for (int i = 0; i < 63 && scaled < 1.0; i++) {
            scaled = scaled * 2.0;
            exponent--;
        }
        for (int i = 0; i < 63 && scaled >= 2.0; i++) {
            scaled = scaled / 2.0;
            exponent++;
        }
        return (exponent << places) + (long) ((scaled - 1.0) * (double) (1L << places));
    }

    private static boolean isBelow(int value, int bound) {
        return value >= 0 && value < bound;
    }

    private static boolean isTicks(int ticks) {
        return ticks >= 1 && ticks <= TICKS_MOST;
    }

    private static boolean isSettingValue(int setting, int value) {
        if (!isBelow(setting, SETTINGS) || value < SETTING_LEAST[setting] || value > SETTING_MOST[setting]) {
            return false;
        }
        // To lose every message is not a setting.
        return setting != LOSS || value != 1;
    }

    /** Saves the state as it is; the oldest saved one makes room for it. */
    private void save() {
        if (savedCount >= SAVED_MOST) {
            State oldest = saved[0];
            for (int i = 1; i < SAVED_MOST; i++) {
                saved[i - 1] = saved[i];
            }
            saved[SAVED_MOST - 1] = oldest;
            savedCount = SAVED_MOST - 1;
        }
        if (saved[savedCount] == null) {
            saved[savedCount] = new State();
        }
        saved[savedCount].copyFrom(now);
        savedCount++;
    }

    /** A copy of the state on which ticks can pass without changing it. */
    private State freshTrial() {
        if (trial == null) {
            trial = new State();
        }
        trial.copyFrom(now);
        return trial;
    }

    /** Does the order at this index of the buffer; false if it would throw. */
    private boolean doOrder(int index) {
        int place = text.digitAt(index + 1);
        switch (text.signAt(index)) {
            case 'b':
                return now.openAt(now.freePlace());
            case 'w':
                if (!now.hasRoomToWrite(place)) {
                    return false;
                }
                now.writeAt(place, text.digitAt(index + 2), text.numberAt(index + 4));
                return true;
            case 'c':
                if (!now.hasRoomToCommit(place)) {
                    return false;
                }
                now.commitAt(place);
                return true;
            case 'd':
                return now.dropAt(place) != NONE;
            case 't':
                now.passTicks(text.numberAt(index + 1));
                return true;
            default:
                now.sweepRows();
                return true;
        }
    }

    /** All that undo() restores. */
    private static final class State {
        final int[] settings;
        final Transaction[] transactions;
        final Rows rows;
        final Receiver[] receivers;
        final Mail mail;
        int ticks;
        int written;

        State() {
            settings = SETTING_FIRST.clone();
            transactions = new Transaction[PLACES];
            for (int i = 0; i < PLACES; i++) {
                transactions[i] = new Transaction();
            }
            rows = new Rows();
            receivers = new Receiver[RECEIVERS];
            for (int i = 0; i < RECEIVERS; i++) {
                receivers[i] = new Receiver();
            }
            mail = new Mail();
            ticks = 0;
            written = 0;
        }

        void copyFrom(State other) {
            System.arraycopy(other.settings, 0, settings, 0, SETTINGS);
            for (int i = 0; i < PLACES; i++) {
                transactions[i].copyFrom(other.transactions[i]);
            }
            rows.copyFrom(other.rows);
            for (int i = 0; i < RECEIVERS; i++) {
                receivers[i].copyFrom(other.receivers[i]);
            }
            mail.copyFrom(other.mail);
            ticks = other.ticks;
            written = other.written;
        }

        /** The lowest place without a transaction, NONE if there is none. */
        int freePlace() {
            for (int i = 0; i < PLACES; i++) {
                if (!transactions[i].open) {
                    return i;
                }
            }
            return NONE;
        }

        boolean isOpen(int place) {
            return isBelow(place, PLACES) && transactions[place].open;
        }

        boolean hasRoomToWrite(int place) {
            return isOpen(place) && transactions[place].size < ROWS_OF_TRANSACTION;
        }

        boolean hasRoomToCommit(int place) {
            if (!isOpen(place)) {
                return false;
            }
            int size = transactions[place].size;
            return rows.kept + size <= KEPT_MOST && rows.committed + size <= COMMITTED_MOST;
        }

        /** Opens a transaction there; false if there is no such free place. */
        boolean openAt(int place) {
            if (!isBelow(place, PLACES) || transactions[place].open) {
                return false;
            }
            transactions[place].open = true;
            transactions[place].size = 0;
            return true;
        }

        /** The write number of the row, NONE if there is no room for it. */
        int writeAt(int place, int topic, int value) {
            if (!hasRoomToWrite(place)) {
                return NONE;
            }
            transactions[place].addRow(written, topic, value);
            written++;
            return written - 1;
        }

        void commitAt(int place) {
            if (!hasRoomToCommit(place)) {
                return;
            }
            Transaction from = transactions[place];
            int before = rows.committed;
            boolean byWriting = settings[BY_WRITING] == 1;
            for (int i = 0; i < from.size; i++) {
                int number = byWriting ? from.writes[i] : before + i;
                rows.addRow(number, from.writes[i], from.topics[i], from.values[i]);
            }
            from.open = false;
        }

        /** How many rows the transaction had, NONE if there is none. */
        int dropAt(int place) {
            if (!isOpen(place)) {
                return NONE;
            }
            transactions[place].open = false;
            return transactions[place].size;
        }

        int passTicks(int count) {
            int effects = 0;
            for (int i = 0; i < count && i < TICKS_MOST; i++) {
                effects += passTick();
            }
            return effects;
        }

        int passTick() {
            ticks++;
            int effects = 0;
            int due = mail.dueAt(ticks);
            for (int i = 0; i < due; i++) {
                effects += firstComes();
            }
            for (int i = 0; i < RECEIVERS; i++) {
                sendBatch(i);
            }
            return effects;
        }

        /** The first message comes; returns how many effects it has. */
        int firstComes() {
            Message first = mail.queue[0];
            int to = first.receiver;
            int number = first.number;
            int effects = 0;
            for (int i = 0; i < first.size; i++) {
                effects += rowComes(first.rows[i], to);
            }
            boolean isAnswer = first.isAnswer;
            mail.removeFirst();
            if (isAnswer) {
                mail.answersCome++;
                receivers[to].answerComes(number);
            } else {
                mail.draft().becomeAnswer(to, number);
                post();
            }
            return effects;
        }

        /** Returns 1 if the row has its effect, 0 if it is a repeat. */
        int rowComes(int row, int receiver) {
            Receiver who = receivers[receiver];
            int number = rows.numbers[row];
            if (who.isRepeat(number, settings[BY_MARK] == 1)) {
                who.repeats++;
                return 0;
            }
            int bit = 1 << receiver;
            if ((rows.effects[row] & bit) != 0) {
                who.seconds++;
            }
            rows.effects[row] |= bit;
            who.takeEffect(number, rows.values[row], settings[MEMORY]);
            return 1;
        }

        /** Sends the receiver a batch, if it is time for one and there are rows for it. */
        void sendBatch(int receiver) {
            Receiver who = receivers[receiver];
            if (who.awaited && ticks - who.latestTick < settings[WAIT_TICKS]) {
                return;
            }
            Message batch = mail.draft();
            batch.becomeBatch(receiver);
            for (int i = 0; i < rows.kept && batch.size < settings[BATCH_ROWS]; i++) {
                int row = rows.order[i];
                if (isFor(row, who)) {
                    batch.addRow(row, rows.numbers[row]);
                    rows.sentTo[row] |= 1 << receiver;
                }
            }
            if (batch.size > 0) {
                who.awaited = true;
                who.latestTick = ticks;
                who.latestNumber = batch.number;
                post();
            }
        }

        void post() {
            mail.postDraft(ticks + settings[MESSAGE_TICKS], settings[LOSS]);
        }

        boolean isFor(int row, Receiver who) {
            return who.wants(rows.topics[row]) && rows.numbers[row] > who.answerMark;
        }

        int rowsFor(int receiver) {
            int count = 0;
            for (int i = 0; i < rows.kept; i++) {
                if (isFor(rows.order[i], receivers[receiver])) {
                    count++;
                }
            }
            return count;
        }

        /** The receivers by whom a kept row is answered, as a mask. */
        int answeredBy(int row) {
            int mask = 0;
            for (int i = 0; i < RECEIVERS; i++) {
                if (!isFor(row, receivers[i])) {
                    mask |= 1 << i;
                }
            }
            return mask;
        }

        int sweepRows() {
            int left = 0;
            int before = rows.kept;
            for (int i = 0; i < before; i++) {
                int row = rows.order[i];
                if (answeredBy(row) == ALL_RECEIVERS) {
                    loseUnseen(row);
                } else {
                    rows.order[left] = row;
                    left++;
                }
            }
            rows.kept = left;
            rows.swept += before - left;
            return before - left;
        }

        /** Counts a row that is swept for the receivers for whom it is lost. */
        void loseUnseen(int row) {
            for (int i = 0; i < RECEIVERS; i++) {
                boolean hadEffect = (rows.effects[row] >> i & 1) == 1;
                if (receivers[i].wants(rows.topics[row]) && !hadEffect) {
                    receivers[i].lostRows++;
                }
            }
        }

        boolean isDrained() {
            if (mail.onWay > 0) {
                return false;
            }
            for (int i = 0; i < rows.kept; i++) {
                if (answeredBy(rows.order[i]) != ALL_RECEIVERS) {
                    return false;
                }
            }
            return true;
        }

        int rowNumber(int row, int what) {
            switch (what) {
                case 0:
                    return rows.numbers[row];
                case 1:
                    return rows.writes[row];
                case 2:
                    return row;
                case 3:
                    return rows.topics[row];
                case 4:
                    return rows.values[row];
                case 5:
                    return rows.effects[row];
                case 6:
                    return answeredBy(row);
                default:
                    return whyItStays(row);
            }
        }

        int whyItStays(int row) {
            for (int i = 0; i < RECEIVERS; i++) {
                if (isFor(row, receivers[i])) {
                    if ((rows.sentTo[row] >> i & 1) == 0) {
                        return 1;
                    }
                    return (rows.effects[row] >> i & 1) == 1 ? 2 : 3;
                }
            }
            return 0;
        }

        int receiverNumber(int receiver, int what) {
            switch (what) {
                case 10:
                    return rowsFor(receiver);
                case 12:
                    return sumDue(receivers[receiver]);
                case 13:
                    return mail.onWayOf(receiver);
                default:
                    return receivers[receiver].tell(what);
            }
        }

        /** The sum that a receiver should have, told from the rows alone. */
        int sumDue(Receiver who) {
            int sum = 0;
            for (int row = 0; row < rows.committed; row++) {
                if (who.wants(rows.topics[row]) && rows.numbers[row] <= who.mark) {
                    sum += rows.values[row];
                }
            }
            return sum;
        }

        /** How many rows a commit would make the receiver skip, NONE without a transaction. */
        int skipped(int place, int receiver) {
            if (!isOpen(place) || !isBelow(receiver, RECEIVERS)) {
                return NONE;
            }
            Transaction from = transactions[place];
            Receiver who = receivers[receiver];
            boolean byWriting = settings[BY_WRITING] == 1;
            int count = 0;
            for (int i = 0; i < from.size; i++) {
                int number = byWriting ? from.writes[i] : rows.committed + i;
                if (who.wants(from.topics[i]) && number <= who.answerMark) {
                    count++;
                }
            }
            return count;
        }

        int counted(int what) {
            switch (what) {
                case 0:
                    return ticks;
                case 1:
                    return written;
                case 2:
                    return rows.committed;
                case 3:
                    return rows.kept;
                case 4:
                    return rows.swept;
                case 5:
                    return mail.sent;
                case 6:
                    return mail.lost;
                case 7:
                    return mail.onWay;
                case 8:
                    return mail.batches;
                case 9:
                    return mail.answersCome;
                default:
                    return openTransactions();
            }
        }

        int openTransactions() {
            int count = 0;
            for (int i = 0; i < PLACES; i++) {
                if (transactions[i].open) {
                    count++;
                }
            }
            return count;
        }
    }

    /** A place for a transaction, and its rows in the order of writing. */
    private static final class Transaction {
        final int[] writes;
        final int[] topics;
        final int[] values;
        boolean open;
        int size;

        Transaction() {
            writes = new int[ROWS_OF_TRANSACTION];
            topics = new int[ROWS_OF_TRANSACTION];
            values = new int[ROWS_OF_TRANSACTION];
            open = false;
            size = 0;
        }

        void copyFrom(Transaction other) {
            System.arraycopy(other.writes, 0, writes, 0, ROWS_OF_TRANSACTION);
            System.arraycopy(other.topics, 0, topics, 0, ROWS_OF_TRANSACTION);
            System.arraycopy(other.values, 0, values, 0, ROWS_OF_TRANSACTION);
            open = other.open;
            size = other.size;
        }

        void addRow(int write, int topic, int value) {
            if (size >= ROWS_OF_TRANSACTION) {
                return;
            }
            writes[size] = write;
            topics[size] = topic;
            values[size] = value;
            size++;
        }

        int tell(int what) {
            if (!open) {
                return NONE;
            }
            if (what == 0) {
                return size;
            }
            if (what == 1) {
                return size == 0 ? NONE : writes[0];
            }
            int sum = 0;
            for (int i = 0; i < size; i++) {
                sum += values[i];
            }
            return sum;
        }
    }

    /** All rows that were committed, by their commit numbers. */
    private static final class Rows {
        final int[] numbers;
        final int[] writes;
        final int[] topics;
        final int[] values;
        final int[] effects;
        final int[] sentTo;
        // The commit numbers of the kept rows, by rising numbers.
        final int[] order;
        int committed;
        int kept;
        int swept;

        Rows() {
            numbers = new int[COMMITTED_MOST];
            writes = new int[COMMITTED_MOST];
            topics = new int[COMMITTED_MOST];
            values = new int[COMMITTED_MOST];
            effects = new int[COMMITTED_MOST];
            sentTo = new int[COMMITTED_MOST];
            order = new int[KEPT_MOST];
            committed = 0;
            kept = 0;
            swept = 0;
        }

        void copyFrom(Rows other) {
            System.arraycopy(other.numbers, 0, numbers, 0, other.committed);
            System.arraycopy(other.writes, 0, writes, 0, other.committed);
            System.arraycopy(other.topics, 0, topics, 0, other.committed);
            System.arraycopy(other.values, 0, values, 0, other.committed);
            System.arraycopy(other.effects, 0, effects, 0, other.committed);
            System.arraycopy(other.sentTo, 0, sentTo, 0, other.committed);
            System.arraycopy(other.order, 0, order, 0, other.kept);
            committed = other.committed;
            kept = other.kept;
            swept = other.swept;
        }

        void addRow(int number, int write, int topic, int value) {
            if (committed >= COMMITTED_MOST || kept >= KEPT_MOST) {
                return;
            }
            numbers[committed] = number;
            writes[committed] = write;
            topics[committed] = topic;
            values[committed] = value;
            effects[committed] = 0;
            sentTo[committed] = 0;
            int at = kept;
            while (at > 0 && numbers[order[at - 1]] > number) {
                order[at] = order[at - 1];
                at--;
            }
            order[at] = committed;
            kept++;
            committed++;
        }
    }

    /** A receiver, and what the relay knows of it. */
    private static final class Receiver {
        // One more than is remembered: a number comes before one is forgotten.
        final int[] memory;
        int remembered;
        int topics;
        int mark;
        int effects;
        int sum;
        int repeats;
        int seconds;
        int disorders;
        int lostRows;
        int answerMark;
        boolean awaited;
        int latestTick;
        int latestNumber;

        Receiver() {
            memory = new int[MEMORY_MOST + 1];
            remembered = 0;
            topics = ALL_TOPICS;
            mark = NONE;
            effects = 0;
            sum = 0;
            repeats = 0;
            seconds = 0;
            disorders = 0;
            lostRows = 0;
            answerMark = NONE;
            awaited = false;
            latestTick = 0;
            latestNumber = NONE;
        }

        void copyFrom(Receiver other) {
            System.arraycopy(other.memory, 0, memory, 0, MEMORY_MOST + 1);
            remembered = other.remembered;
            topics = other.topics;
            mark = other.mark;
            effects = other.effects;
            sum = other.sum;
            repeats = other.repeats;
            seconds = other.seconds;
            disorders = other.disorders;
            lostRows = other.lostRows;
            answerMark = other.answerMark;
            awaited = other.awaited;
            latestTick = other.latestTick;
            latestNumber = other.latestNumber;
        }

        boolean wants(int topic) {
            return (topics >> topic & 1) == 1;
        }

        boolean isRepeat(int number, boolean byMark) {
            if (byMark) {
                return number <= mark;
            }
            for (int i = 0; i < remembered; i++) {
                if (memory[i] == number) {
                    return true;
                }
            }
            return false;
        }

        void takeEffect(int number, int value, int rememberMost) {
            effects++;
            sum += value;
            // The mark is the greatest number that had its effect so far.
            if (number < mark) {
                disorders++;
            }
            if (number > mark) {
                mark = number;
            }
            if (remembered <= MEMORY_MOST) {
                memory[remembered] = number;
                remembered++;
            }
            if (remembered > rememberMost) {
                for (int i = 1; i < remembered; i++) {
                    memory[i - 1] = memory[i];
                }
                remembered--;
            }
        }

        void answerComes(int number) {
            if (number > answerMark) {
                answerMark = number;
            }
            if (number >= latestNumber) {
                awaited = false;
            }
        }

        int tell(int what) {
            switch (what) {
                case 0:
                    return topics;
                case 1:
                    return mark;
                case 2:
                    return remembered;
                case 3:
                    return effects;
                case 4:
                    return sum;
                case 5:
                    return repeats;
                case 6:
                    return seconds;
                case 7:
                    return disorders;
                case 8:
                    return answerMark;
                case 9:
                    return awaited ? 1 : 0;
                default:
                    return lostRows;
            }
        }

        /** What came to this receiver since it was as the earlier one. */
        int sinceThen(Receiver earlier, int what) {
            switch (what) {
                case 0:
                    return effects - earlier.effects;
                case 1:
                    return repeats - earlier.repeats;
                case 2:
                    return seconds - earlier.seconds;
                default:
                    return answerMark;
            }
        }
    }

    /** The messages: those on their way, and what is counted of all. */
    private static final class Mail {
        // Those on their way come first, in the order in which they will come;
        // behind them stand the free ones, to be used again.
        final Message[] queue;
        int onWay;
        int sent;
        int lost;
        int batches;
        int batchRows;
        int answersCome;

        Mail() {
            queue = new Message[MESSAGES_MOST + 1];
            for (int i = 0; i <= MESSAGES_MOST; i++) {
                queue[i] = new Message();
            }
            onWay = 0;
            sent = 0;
            lost = 0;
            batches = 0;
            batchRows = 0;
            answersCome = 0;
        }

        void copyFrom(Mail other) {
            for (int i = 0; i < other.onWay; i++) {
                queue[i].copyFrom(other.queue[i]);
            }
            onWay = other.onWay;
            sent = other.sent;
            lost = other.lost;
            batches = other.batches;
            batchRows = other.batchRows;
            answersCome = other.answersCome;
        }

        int dueAt(int tick) {
            int count = 0;
            while (count < onWay && queue[count].due <= tick) {
                count++;
            }
            return count;
        }

        void removeFirst() {
            if (onWay == 0) {
                return;
            }
            Message first = queue[0];
            for (int i = 1; i < onWay; i++) {
                queue[i - 1] = queue[i];
            }
            onWay--;
            queue[onWay] = first;
        }

        /** The free message that is written next, and sent by postDraft. */
        Message draft() {
            return queue[onWay];
        }

        void postDraft(int due, int loss) {
            Message draft = queue[onWay];
            sent++;
            if (!draft.isAnswer) {
                batches++;
                batchRows += draft.size;
            }
            if (loss > 0 && sent % loss == 0) {
                lost++;
                return;
            }
            if (onWay >= MESSAGES_MOST) {
                return;
            }
            draft.due = due;
            int at = onWay;
            while (at > 0 && queue[at - 1].due > due) {
                queue[at] = queue[at - 1];
                at--;
            }
            queue[at] = draft;
            onWay++;
        }

        int onWayOf(int receiver) {
            int count = 0;
            for (int i = 0; i < onWay; i++) {
                if (queue[i].receiver == receiver) {
                    count++;
                }
            }
            return count;
        }
    }

    /** A batch with its rows by rising numbers, or an answer without rows. */
    private static final class Message {
        final int[] rows;
        boolean isAnswer;
        int receiver;
        int due;
        int size;
        int number;

        Message() {
            rows = new int[BATCH_MOST];
            isAnswer = false;
            receiver = 0;
            due = 0;
            size = 0;
            number = NONE;
        }

        void copyFrom(Message other) {
            System.arraycopy(other.rows, 0, rows, 0, BATCH_MOST);
            isAnswer = other.isAnswer;
            receiver = other.receiver;
            due = other.due;
            size = other.size;
            number = other.number;
        }

        void becomeBatch(int to) {
            isAnswer = false;
            receiver = to;
            size = 0;
            number = NONE;
        }

        void becomeAnswer(int from, int greatest) {
            isAnswer = true;
            receiver = from;
            size = 0;
            number = greatest;
        }

        /** Adds a row with a number above those in the batch. */
        void addRow(int row, int itsNumber) {
            if (size >= BATCH_MOST) {
                return;
            }
            rows[size] = row;
            size++;
            number = itsNumber;
        }

        int tell(int what, int tick) {
            switch (what) {
                case 0:
                    return isAnswer ? 1 : 0;
                case 1:
                    return receiver;
                case 2:
                    return due - tick;
                case 3:
                    return size;
                default:
                    return number;
            }
        }
    }

    /** The buffer, and how it is read as orders. */
    private static final class OrderText {
        private static final int WRONG = 0;
        private static final int PART = 1;
        private static final int WRITE_PLACE = 2;
        private static final int WRITE_TOPIC = 3;
        private static final int EQUALS = 4;
        private static final int VALUE = 5;
        private static final int PLACE = 6;
        private static final int TICKS = 7;
        private static final int DIGIT_OR_END = 8;
        private static final int END = 9;

        final int[] signs;
        int length;

        OrderText() {
            signs = new int[SIGNS_MOST];
            length = 0;
        }

        int errorIndex() {
            int expected = PART;
            for (int i = 0; i < length; i++) {
                expected = after(expected, signs[i]);
                if (expected == WRONG) {
                    return i;
                }
            }
            return length;
        }

        boolean isComplete() {
            int expected = PART;
            for (int i = 0; i < length; i++) {
                expected = after(expected, signs[i]);
            }
            return expected == END || expected == DIGIT_OR_END;
        }

        boolean beginsPart(int index) {
            return index == 0 || signAt(index - 1) == ';';
        }

        int signAt(int index) {
            return isBelow(index, length) ? signs[index] : NONE;
        }

        int digitAt(int index) {
            int sign = signAt(index);
            return isBetween(sign, '0', '9') ? sign - '0' : NONE;
        }

        /** The number with one or two digits that begins at this index. */
        int numberAt(int index) {
            int first = digitAt(index);
            int second = digitAt(index + 1);
            return second == NONE ? first : 10 * first + second;
        }

        /** What is expected behind a sign that comes where something was expected. */
        private static int after(int expected, int sign) {
            switch (expected) {
                case PART:
                    return afterPartSign(sign);
                case WRITE_PLACE:
                    return isBetween(sign, '0', '3') ? WRITE_TOPIC : WRONG;
                case WRITE_TOPIC:
                    return isBetween(sign, '0', '3') ? EQUALS : WRONG;
                case EQUALS:
                    return sign == '=' ? VALUE : WRONG;
                case VALUE:
                    return sign == '0' ? END : afterFirstDigit(sign);
                case PLACE:
                    return isBetween(sign, '0', '3') ? END : WRONG;
                case TICKS:
                    return afterFirstDigit(sign);
                case DIGIT_OR_END:
                    return isBetween(sign, '0', '9') ? END : afterEnd(sign);
                case END:
                    return afterEnd(sign);
                default:
                    return WRONG;
            }
        }

        private static int afterPartSign(int sign) {
            switch (sign) {
                case 'b':
                case 's':
                    return END;
                case 'w':
                    return WRITE_PLACE;
                case 'c':
                case 'd':
                    return PLACE;
                case 't':
                    return TICKS;
                default:
                    return WRONG;
            }
        }

        private static int afterFirstDigit(int sign) {
            return isBetween(sign, '1', '9') ? DIGIT_OR_END : WRONG;
        }

        private static int afterEnd(int sign) {
            return sign == ';' ? PART : WRONG;
        }

        private static boolean isBetween(int sign, int least, int most) {
            return sign >= least && sign <= most;
        }
    }
}
