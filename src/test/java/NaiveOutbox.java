import java.util.ArrayDeque;
import java.util.ArrayList;
import java.util.Comparator;
import java.util.Deque;
import java.util.HashSet;
import java.util.List;
import java.util.Set;
import java.util.regex.Matcher;
import java.util.regex.Pattern;

/**
 * The document told a second way: all that ever happened is kept in lists, and
 * each answer is found by looking through them. It is slow and plain, and it
 * shares nothing with the program.
 */
final class NaiveOutbox {

    private static final String PART = "(b|w[0-3][0-3]=(0|[1-9][0-9]?)|[cd][0-3]|t[1-9][0-9]?|s)";
    private static final Pattern ORDERS = Pattern.compile(PART + "(;" + PART + ")*");

    private record Row(int write, int commit, int topic, int value) { }

    private record Happened(int receiver, Row row, boolean effect) { }

    private record Post(int index, boolean answer, int receiver, int sentIn, int due, List<Row> rows, int number) {

        @Override
        public int hashCode() {
            return index;
        }
    }

    private record Came(Post post, int tick) { }

    private static final class State {
        int[] settings = {0, 2, 3, 6, 0, 1, 4};
        int[] wanted = {15, 15, 15};
        List<List<Row>> open = new ArrayList<>();
        List<Row> committed = new ArrayList<>();
        Set<Row> swept = new HashSet<>();
        List<Happened> log = new ArrayList<>();
        List<Post> posts = new ArrayList<>();
        Set<Post> lost = new HashSet<>();
        List<Came> came = new ArrayList<>();
        List<List<Integer>> memories = new ArrayList<>();
        List<Integer> unseen = new ArrayList<>();
        int ticks;
        int written;

        State() {
            for (int i = 0; i < 4; i++) {
                open.add(null);
            }
            for (int i = 0; i < 3; i++) {
                memories.add(new ArrayList<>());
            }
        }

        State copy() {
            State to = new State();
            to.settings = settings.clone();
            to.wanted = wanted.clone();
            for (int i = 0; i < 4; i++) {
                to.open.set(i, open.get(i) == null ? null : new ArrayList<>(open.get(i)));
            }
            to.committed.addAll(committed);
            to.swept.addAll(swept);
            to.log.addAll(log);
            to.posts.addAll(posts);
            to.lost.addAll(lost);
            to.came.addAll(came);
            for (int i = 0; i < 3; i++) {
                to.memories.get(i).addAll(memories.get(i));
            }
            to.unseen.addAll(unseen);
            to.ticks = ticks;
            to.written = written;
            return to;
        }

        int number(Row row) {
            return settings[0] == 0 ? row.commit() : row.write();
        }

        List<Row> kept() {
            List<Row> rows = new ArrayList<>(committed);
            rows.removeAll(swept);
            rows.sort(Comparator.comparingInt(this::number));
            return rows;
        }

        boolean wants(int receiver, Row row) {
            return (wanted[receiver] & (1 << row.topic())) != 0;
        }

        boolean hadEffect(int receiver, Row row) {
            return log.contains(new Happened(receiver, row, true));
        }

        int mark(int receiver) {
            int mark = -1;
            for (Happened one : log) {
                if (one.effect() && one.receiver() == receiver) {
                    mark = Math.max(mark, number(one.row()));
                }
            }
            return mark;
        }

        int answerMark(int receiver) {
            int mark = -1;
            for (Came one : came) {
                if (one.post().answer() && one.post().receiver() == receiver) {
                    mark = Math.max(mark, one.post().number());
                }
            }
            return mark;
        }

        Post latestBatch(int receiver) {
            Post latest = null;
            for (Post post : posts) {
                if (!post.answer() && post.receiver() == receiver) {
                    latest = post;
                }
            }
            return latest;
        }

        boolean waits(int receiver) {
            Post batch = latestBatch(receiver);
            if (batch == null) {
                return false;
            }
            for (Came one : came) {
                Post post = one.post();
                if (post.answer() && post.receiver() == receiver && one.tick() > batch.sentIn()
                        && post.number() >= batch.number()) {
                    return false;
                }
            }
            return true;
        }

        List<Row> rowsFor(int receiver) {
            List<Row> rows = kept();
            int mark = answerMark(receiver);
            rows.removeIf(row -> !wants(receiver, row) || number(row) <= mark);
            return rows;
        }

        boolean answered(int receiver, Row row) {
            return !wants(receiver, row) || number(row) <= answerMark(receiver);
        }

        List<Post> onWay() {
            List<Post> left = new ArrayList<>();
            for (Post post : posts) {
                if (post.due() > ticks && !lost.contains(post)) {
                    left.add(post);
                }
            }
            left.sort(Comparator.comparingInt(Post::due).thenComparingInt(Post::index));
            return left;
        }

        void send(boolean answer, int receiver, List<Row> rows, int number) {
            Post post = new Post(posts.size() + 1, answer, receiver, ticks, ticks + settings[1], rows, number);
            posts.add(post);
            if (settings[4] != 0 && post.index() % settings[4] == 0) {
                lost.add(post);
            }
        }

        void tick() {
            List<Post> coming = new ArrayList<>();
            for (Post post : onWay()) {
                if (post.due() == ticks + 1) {
                    coming.add(post);
                }
            }
            ticks++;
            coming.sort(Comparator.comparingInt(Post::index));
            for (Post post : coming) {
                came.add(new Came(post, ticks));
                if (!post.answer()) {
                    for (Row row : post.rows()) {
                        rowComes(post.receiver(), row);
                    }
                    send(true, post.receiver(), List.of(), post.number());
                }
            }
            for (int r = 0; r < 3; r++) {
                boolean again = waits(r) && ticks - latestBatch(r).sentIn() >= settings[3];
                List<Row> rows = rowsFor(r);
                if ((!waits(r) || again) && !rows.isEmpty()) {
                    List<Row> batch = new ArrayList<>(rows.subList(0, Math.min(settings[2], rows.size())));
                    send(false, r, batch, number(batch.get(batch.size() - 1)));
                }
            }
        }

        void rowComes(int receiver, Row row) {
            List<Integer> memory = memories.get(receiver);
            boolean repeat = settings[5] == 1 ? number(row) <= mark(receiver) : memory.contains(number(row));
            log.add(new Happened(receiver, row, !repeat));
            if (!repeat) {
                memory.add(number(row));
                if (memory.size() > settings[6]) {
                    memory.remove(0);
                }
            }
        }

        int happened(int receiver, boolean effect) {
            int count = 0;
            for (Happened one : log) {
                if (one.receiver() == receiver && one.effect() == effect) {
                    count++;
                }
            }
            return count;
        }

        int seconds(int receiver) {
            int count = 0;
            List<Row> before = new ArrayList<>();
            for (Happened one : log) {
                if (one.receiver() == receiver && one.effect()) {
                    if (before.contains(one.row())) {
                        count++;
                    } else {
                        before.add(one.row());
                    }
                }
            }
            return count;
        }

        int disorders(int receiver) {
            int count = 0;
            int greatest = -1;
            for (Happened one : log) {
                if (one.receiver() == receiver && one.effect()) {
                    if (number(one.row()) < greatest) {
                        count++;
                    }
                    greatest = Math.max(greatest, number(one.row()));
                }
            }
            return count;
        }

        int sum(int receiver) {
            int sum = 0;
            for (Happened one : log) {
                sum += one.receiver() == receiver && one.effect() ? one.row().value() : 0;
            }
            return sum;
        }

        int sumDue(int receiver) {
            int sum = 0;
            int mark = mark(receiver);
            for (Row row : committed) {
                sum += wants(receiver, row) && number(row) <= mark ? row.value() : 0;
            }
            return sum;
        }

        int why(Row row) {
            for (int r = 0; r < 3; r++) {
                if (!answered(r, row)) {
                    boolean sent = false;
                    for (Post post : posts) {
                        sent |= !post.answer() && post.receiver() == r && post.rows().contains(row);
                    }
                    return !sent ? 1 : hadEffect(r, row) ? 2 : 3;
                }
            }
            return 0;
        }
    }

    private State now = new State();
    private State kept = null;
    private final Deque<State> saved = new ArrayDeque<>();
    private final StringBuilder buffer = new StringBuilder();

    private void save() {
        saved.addLast(now.copy());
        if (saved.size() > 6) {
            saved.removeFirst();
        }
    }

    private static void index(boolean fine) {
        if (!fine) {
            throw new IndexOutOfBoundsException();
        }
    }

    private static void argument(boolean fine) {
        if (!fine) {
            throw new IllegalArgumentException();
        }
    }

    private static void state(boolean fine) {
        if (!fine) {
            throw new IllegalStateException();
        }
    }

    private static boolean in(int value, int least, int most) {
        return least <= value && value <= most;
    }

    private boolean openAt(int place) {
        return in(place, 0, 3) && now.open.get(place) != null;
    }

    int begin() {
        int place = now.open.indexOf(null);
        state(place >= 0);
        save();
        now.open.set(place, new ArrayList<>());
        return place;
    }

    int write(int place, int topic, int value) {
        index(openAt(place));
        argument(in(topic, 0, 3) && in(value, 0, 99));
        state(now.open.get(place).size() < 6);
        save();
        now.open.get(place).add(new Row(now.written, -1, topic, value));
        return now.written++;
    }

    int commit(int place) {
        index(openAt(place));
        List<Row> rows = now.open.get(place);
        state(now.kept().size() + rows.size() <= 60 && now.committed.size() + rows.size() <= 200);
        save();
        for (Row row : rows) {
            now.committed.add(new Row(row.write(), now.committed.size(), row.topic(), row.value()));
        }
        now.open.set(place, null);
        return now.kept().size();
    }

    int drop(int place) {
        index(openAt(place));
        save();
        return now.open.set(place, null).size();
    }

    int want(int receiver, int topics) {
        index(in(receiver, 0, 2));
        argument(in(topics, 0, 15));
        save();
        int before = now.wanted[receiver];
        now.wanted[receiver] = topics;
        return before;
    }

    private int allEffects() {
        return now.happened(0, true) + now.happened(1, true) + now.happened(2, true);
    }

    int pass(int ticks) {
        argument(in(ticks, 1, 99));
        save();
        int before = allEffects();
        for (int i = 0; i < ticks; i++) {
            now.tick();
        }
        return allEffects() - before;
    }

    int lose() {
        state(!now.onWay().isEmpty());
        save();
        now.lost.add(now.onWay().get(0));
        return now.onWay().size();
    }

    int sweep() {
        save();
        int count = 0;
        for (Row row : now.kept()) {
            if (now.answered(0, row) && now.answered(1, row) && now.answered(2, row)) {
                now.swept.add(row);
                count++;
                for (int r = 0; r < 3; r++) {
                    if (now.wants(r, row) && !now.hadEffect(r, row)) {
                        now.unseen.add(r);
                    }
                }
            }
        }
        return count;
    }

    int set(int setting, int value) {
        index(in(setting, 0, 6));
        boolean fine = switch (setting) {
            case 0, 5 -> in(value, 0, 1);
            case 1 -> in(value, 1, 9);
            case 2 -> in(value, 1, 8);
            case 4 -> value == 0 || in(value, 2, 9);
            default -> in(value, 1, 20);
        };
        argument(fine);
        state(setting != 0 || now.committed.isEmpty());
        save();
        int before = now.settings[setting];
        now.settings[setting] = value;
        return before;
    }

    int append(int code) {
        argument(in(code, 33, 126));
        state(buffer.length() < 60);
        return buffer.append((char) code).length();
    }

    int clearBuffer() {
        int length = buffer.length();
        buffer.setLength(0);
        return length;
    }

    int firstError() {
        for (int i = 0; i < buffer.length(); i++) {
            Matcher matcher = ORDERS.matcher(buffer.substring(0, i + 1));
            if (!matcher.matches() && !matcher.hitEnd()) {
                return i;
            }
        }
        return buffer.length();
    }

    int obey() {
        argument(ORDERS.matcher(buffer).matches());
        State before = now.copy();
        List<State> savedBefore = new ArrayList<>(saved);
        int done = 0;
        try {
            for (String part : buffer.toString().split(";")) {
                order(part);
                done++;
            }
        } catch (RuntimeException e) {
            // The order that throws, and those behind it, are not done.
        }
        saved.clear();
        saved.addAll(savedBefore);
        State after = now;
        now = before;
        save();
        now = after;
        buffer.setLength(0);
        return done;
    }

    private void order(String part) {
        switch (part.charAt(0)) {
            case 'b' -> begin();
            case 'w' -> write(part.charAt(1) - '0', part.charAt(2) - '0', Integer.parseInt(part.substring(4)));
            case 'c' -> commit(part.charAt(1) - '0');
            case 'd' -> drop(part.charAt(1) - '0');
            case 't' -> pass(Integer.parseInt(part.substring(1)));
            default -> sweep();
        }
    }

    int keep() {
        kept = now.copy();
        return now.ticks;
    }

    int goBack() {
        state(kept != null);
        save();
        now = kept.copy();
        return now.ticks;
    }

    int undo() {
        state(!saved.isEmpty());
        now = saved.removeLast();
        return saved.size();
    }

    int row(int rank, int what) {
        List<Row> rows = now.kept();
        index(in(rank, 0, rows.size() - 1));
        argument(in(what, 0, 7));
        Row row = rows.get(rank);
        int effects = 0;
        int answers = 0;
        for (int r = 0; r < 3; r++) {
            effects += now.hadEffect(r, row) ? 1 << r : 0;
            answers += now.answered(r, row) ? 1 << r : 0;
        }
        return new int[] {now.number(row), row.write(), row.commit(), row.topic(), row.value(),
            effects, answers, now.why(row)}[what];
    }

    int transaction(int place, int what) {
        index(in(place, 0, 3));
        argument(in(what, 0, 2));
        List<Row> rows = now.open.get(place);
        if (rows == null) {
            return -1;
        }
        int sum = 0;
        for (Row row : rows) {
            sum += row.value();
        }
        return new int[] {rows.size(), rows.isEmpty() ? -1 : rows.get(0).write(), sum}[what];
    }

    int receiver(int receiver, int what) {
        index(in(receiver, 0, 2));
        argument(in(what, 0, 13));
        return switch (what) {
            case 0 -> now.wanted[receiver];
            case 1 -> now.mark(receiver);
            case 2 -> now.memories.get(receiver).size();
            case 3 -> now.happened(receiver, true);
            case 4 -> now.sum(receiver);
            case 5 -> now.happened(receiver, false);
            case 6 -> now.seconds(receiver);
            case 7 -> now.disorders(receiver);
            case 8 -> now.answerMark(receiver);
            case 9 -> now.waits(receiver) ? 1 : 0;
            case 10 -> now.rowsFor(receiver).size();
            case 11 -> (int) now.unseen.stream().filter(r -> r == receiver).count();
            case 12 -> now.sumDue(receiver);
            default -> (int) now.onWay().stream().filter(post -> post.receiver() == receiver).count();
        };
    }

    int message(int rank, int what) {
        List<Post> posts = now.onWay();
        index(in(rank, 0, posts.size() - 1));
        argument(in(what, 0, 4));
        Post post = posts.get(rank);
        return new int[] {post.answer() ? 1 : 0, post.receiver(), post.due() - now.ticks,
            post.rows().size(), post.number()}[what];
    }

    int count(int what) {
        argument(in(what, 0, 11));
        return switch (what) {
            case 0 -> now.ticks;
            case 1 -> now.written;
            case 2 -> now.committed.size();
            case 3 -> now.kept().size();
            case 4 -> now.swept.size();
            case 5 -> now.posts.size();
            case 6 -> now.lost.size();
            case 7 -> now.onWay().size();
            case 8 -> (int) now.posts.stream().filter(post -> !post.answer()).count();
            case 9 -> (int) now.came.stream().filter(one -> one.post().answer()).count();
            case 10 -> (int) now.open.stream().filter(rows -> rows != null).count();
            default -> saved.size();
        };
    }

    int setting(int setting) {
        index(in(setting, 0, 6));
        return now.settings[setting];
    }

    int drainIn() {
        State then = now.copy();
        for (int i = 0; i <= 300; i++) {
            if (then.onWay().isEmpty() && then.rowsFor(0).isEmpty() && then.rowsFor(1).isEmpty()
                    && then.rowsFor(2).isEmpty()) {
                return i;
            }
            then.tick();
        }
        return -1;
    }

    int ifPassed(int ticks, int receiver, int what) {
        index(in(receiver, 0, 2));
        argument(in(ticks, 1, 99) && in(what, 0, 3));
        State then = now.copy();
        for (int i = 0; i < ticks; i++) {
            then.tick();
        }
        return switch (what) {
            case 0 -> then.happened(receiver, true) - now.happened(receiver, true);
            case 1 -> then.happened(receiver, false) - now.happened(receiver, false);
            case 2 -> then.seconds(receiver) - now.seconds(receiver);
            default -> then.answerMark(receiver);
        };
    }

    int skips(int place, int receiver) {
        index(in(place, 0, 3) && in(receiver, 0, 2));
        List<Row> rows = now.open.get(place);
        if (rows == null) {
            return -1;
        }
        int count = 0;
        for (int i = 0; i < rows.size(); i++) {
            Row row = rows.get(i);
            Row later = new Row(row.write(), now.committed.size() + i, row.topic(), row.value());
            if (now.wants(receiver, later) && now.number(later) <= now.answerMark(receiver)) {
                count++;
            }
        }
        return count;
    }

    int slowest() {
        int most = 0;
        for (int r = 0; r < 3; r++) {
            most = Math.max(most, now.rowsFor(r).size());
        }
        for (int r = 0; r < 3; r++) {
            if (most > 0 && now.rowsFor(r).size() == most) {
                return r;
            }
        }
        return -1;
    }

    double goodShare() {
        int sent = now.posts.size();
        return sent == 0 ? 1.0 : (double) (sent - now.lost.size()) / sent;
    }

    float meanBatch() {
        int rows = 0;
        int batches = 0;
        for (Post post : now.posts) {
            rows += post.rows().size();
            batches += post.answer() ? 0 : 1;
        }
        return batches == 0 ? 0.0f : (float) rows / batches;
    }

    long digest() {
        List<Long> values = new ArrayList<>();
        for (int i = 0; i < 12; i++) {
            values.add((long) count(i));
        }
        for (int i = 0; i < 7; i++) {
            values.add((long) setting(i));
        }
        for (int i = 0; i < now.kept().size(); i++) {
            for (int j = 0; j < 8; j++) {
                values.add((long) row(i, j));
            }
        }
        for (int i = 0; i < 4; i++) {
            for (int j = 0; j < 3; j++) {
                values.add((long) transaction(i, j));
            }
            for (int j = 0; j < 3; j++) {
                values.add((long) skips(i, j));
            }
        }
        for (int i = 0; i < 3; i++) {
            for (int j = 0; j < 14; j++) {
                values.add((long) receiver(i, j));
            }
            for (int number : now.memories.get(i)) {
                values.add((long) number);
            }
            for (int j = 0; j < 4; j++) {
                values.add((long) ifPassed(10, i, j));
            }
        }
        for (int i = 0; i < now.onWay().size(); i++) {
            for (int j = 0; j < 5; j++) {
                values.add((long) message(i, j));
            }
        }
        values.add((long) drainIn());
        values.add((long) slowest());
        values.add(Double.doubleToLongBits(goodShare()));
        values.add((long) Float.floatToIntBits(meanBatch()));
        values.add(kept == null ? 0L : 1L);
        values.add((long) buffer.length());
        for (int i = 0; i < buffer.length(); i++) {
            values.add((long) buffer.charAt(i));
        }
        long hash = 3623;
        for (long value : values) {
            hash = 31 * hash + value;
        }
        return hash;
    }
}
