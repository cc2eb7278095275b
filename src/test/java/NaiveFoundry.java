import java.io.ByteArrayInputStream;
import java.io.ByteArrayOutputStream;
import java.io.IOException;
import java.io.ObjectInputStream;
import java.io.ObjectOutputStream;
import java.io.Serializable;
import java.util.ArrayList;
import java.util.Comparator;
import java.util.List;
import java.util.NoSuchElementException;

/**
 * The document once more, word by word and with the whole library at hand: states are copied for cuts, windows and
 * sessions are objects with lists of rows. RandomRuns compares the program with it.
 */
@SuppressWarnings("serial")
final class NaiveFoundry {
    private final List<List<Row>> logs = new ArrayList<>();
    private final int[] slacks = new int[3];
    private final int[] workers = {0, 1, 2, 0, 1, 2, 0, 1};
    private State live = new State();
    private byte[] open;
    private byte[] completed;
    private final List<Output> promised = new ArrayList<>();
    private final List<Output> prepared = new ArrayList<>();
    private final List<Output> waiting = new ArrayList<>();
    private boolean everRead;
    private boolean everCut;

    NaiveFoundry() {
        for (int i = 0; i < 3; i++) {
            logs.add(new ArrayList<>());
        }
        completed = bytesOf(live);
    }

    static final class Row implements Serializable {
        final boolean mark;
        final boolean left;
        final int key;
        final int time;
        final int value;

        Row(boolean mark, boolean left, int key, int time, int value) {
            this.mark = mark;
            this.left = left;
            this.key = key;
            this.time = time;
            this.value = value;
        }
    }

    record Output(int view, int key, int from, int to, int value, int sign) implements Serializable { }

    static final class Told implements Serializable {
        final int key;
        final int from;
        final int to;
        final int value;

        Told(int key, int from, int to, int value) {
            this.key = key;
            this.from = from;
            this.to = to;
            this.value = value;
        }

        boolean like(Told o) {
            return key == o.key && from == o.from && to == o.to && value == o.value;
        }
    }

    /** Rows of a window or a session, or one row that is kept, with what was told for it. */
    static final class Thing implements Serializable {
        final int key;
        int from;
        int to;
        final List<Row> rows = new ArrayList<>();
        Told told;

        Thing(int key, int from, int to) {
            this.key = key;
            this.from = from;
            this.to = to;
        }
    }

    static final class Taken implements Serializable {
        final Row row;
        final int window;

        Taken(Row row, int window) {
            this.row = row;
            this.window = window;
        }
    }

    static final class State implements Serializable {
        final int[] places = new int[3];
        final int[] marks = {-1, -1, -1};
        final List<View> views = new ArrayList<>();
    }

    static final class View implements Serializable {
        char kind;
        char measure;
        char filter;
        int size;
        int step;
        int grace;
        int dropped;
        final List<Told> told = new ArrayList<>();
        final List<Thing> things = new ArrayList<>();
        final List<Taken> taken = new ArrayList<>();
    }

    private static byte[] bytesOf(State state) {
        try {
            ByteArrayOutputStream bytes = new ByteArrayOutputStream();
            ObjectOutputStream out = new ObjectOutputStream(bytes);
            out.writeObject(state);
            out.close();
            return bytes.toByteArray();
        } catch (IOException e) {
            throw new AssertionError(e);
        }
    }

    private static State stateOf(byte[] bytes) {
        try {
            return (State) new ObjectInputStream(new ByteArrayInputStream(bytes)).readObject();
        } catch (IOException | ClassNotFoundException e) {
            throw new AssertionError(e);
        }
    }

    private static void argument(boolean good) {
        if (!good) {
            throw new IllegalArgumentException();
        }
    }

    private static void state(boolean good) {
        if (!good) {
            throw new IllegalStateException();
        }
    }

    private View viewAt(int view) {
        if (view < 0 || view >= live.views.size()) {
            throw new IndexOutOfBoundsException();
        }
        return live.views.get(view);
    }

    int putRow(int part, int key, int time, int value) {
        argument(part >= 0 && part <= 2 && key >= 0 && key <= 7 && time >= 0 && time <= 999);
        argument(value >= -99 && value <= 99);
        state(logs.get(part).size() < 80);
        logs.get(part).add(new Row(false, part < 2, key, time, value));
        return logs.get(part).size() - 1;
    }

    int putMark(int part, int time) {
        argument(part >= 0 && part <= 2 && time >= 0 && time <= 999);
        state(logs.get(part).size() < 80);
        logs.get(part).add(new Row(true, part < 2, 0, time, 0));
        return logs.get(part).size() - 1;
    }

    int setSlack(int part, int slack) {
        argument(part >= 0 && part <= 2 && slack >= 0 && slack <= 99);
        state(live.views.isEmpty());
        int before = slacks[part];
        slacks[part] = slack;
        return before;
    }

    int addView(char kind, char measure, char filter, int size, int step, int grace) {
        argument("tlsjv".indexOf(kind) >= 0 && "csxbm".indexOf(measure) >= 0 && "aep".indexOf(filter) >= 0);
        argument(size >= 1 && size <= 200 && grace >= 0 && grace <= 200);
        argument(kind != 'l' || step >= 1 && step <= size);
        state(live.views.size() < 5 && !everRead && !everCut);
        View view = new View();
        view.kind = kind;
        view.measure = measure;
        view.filter = filter;
        view.size = size;
        view.step = kind == 't' ? size : step;
        view.grace = grace;
        live.views.add(view);
        completed = bytesOf(live);
        return live.views.size() - 1;
    }

    int entries(int part) {
        argument(part >= 0 && part <= 2);
        return logs.get(part).size();
    }

    int read(int part, int many) {
        argument(part >= 0 && part <= 2 && many >= 1 && many <= 20);
        int done = 0;
        while (done < many && live.places[part] < logs.get(part).size()) {
            everRead = true;
            readOne(part, logs.get(part).get(live.places[part]));
            done++;
        }
        return done;
    }

    private void readOne(int part, Row row) {
        int before = mark();
        for (int i = 0; i < live.views.size(); i++) {
            if (!row.mark && letsIn(live.views.get(i), row)) {
                take(i, row, before);
            }
        }
        live.places[part]++;
        int offer = row.mark ? row.time : row.time - slacks[part];
        if (offer > live.marks[part]) {
            live.marks[part] = offer;
        }
        if (mark() > before) {
            for (int i = 0; i < live.views.size(); i++) {
                tellDue(i);
                letGo(live.views.get(i));
            }
        }
    }

    private static boolean letsIn(View v, Row row) {
        boolean side = row.left || v.kind == 'j' || v.kind == 'v';
        return side && (v.filter == 'a' || v.filter == 'e' && row.value % 2 == 0 || v.filter == 'p' && row.value > 0);
    }

    private void take(int i, Row row, int mark) {
        View v = live.views.get(i);
        if (v.kind == 't' || v.kind == 'l') {
            for (int begin = 0; begin <= row.time; begin += v.step) {
                if (row.time < begin + v.size) {
                    takeByWindow(i, row, begin, mark);
                }
            }
        } else if (v.kind == 's') {
            takeBySessions(i, row, mark);
        } else if (v.kind == 'j') {
            takeByJoin(i, row, mark);
        } else {
            takeByVersions(i, row, mark);
        }
    }

    private void takeByWindow(int i, Row row, int begin, int mark) {
        View v = live.views.get(i);
        int end = begin + v.size;
        if (mark >= end + v.grace) {
            v.dropped++;
            return;
        }
        v.taken.add(new Taken(row, begin));
        Thing window = null;
        for (Thing t : v.things) {
            if (t.key == row.key && t.from == begin) {
                window = t;
            }
        }
        if (window == null) {
            window = new Thing(row.key, begin, end);
            v.things.add(window);
        }
        window.rows.add(row);
        if (mark >= end) {
            tellAnew(i, window, resultOf(v, window));
        }
    }

    private void takeBySessions(int i, Row row, int mark) {
        View v = live.views.get(i);
        if (mark >= row.time + v.size + 1 + v.grace) {
            v.dropped++;
            return;
        }
        v.taken.add(new Taken(row, 0));
        List<Thing> joined = new ArrayList<>();
        Thing all = new Thing(row.key, row.time, row.time);
        all.rows.add(row);
        for (Thing t : v.things) {
            if (t.key == row.key && t.from - v.size <= row.time && t.to + v.size >= row.time) {
                joined.add(t);
                all.rows.addAll(t.rows);
                all.from = Math.min(all.from, t.from);
                all.to = Math.max(all.to, t.to);
            }
        }
        joined.sort(Comparator.comparingInt(t -> t.from));
        v.things.removeAll(joined);
        v.things.add(all);
        boolean due = mark > all.to + v.size;
        if (joined.size() == 1 && joined.get(0).told != null && due) {
            all.told = joined.get(0).told;
            tellAnew(i, all, resultOf(v, all));
            return;
        }
        for (Thing t : joined) {
            if (t.told != null) {
                takeBack(i, t);
            }
        }
        if (due) {
            tellAnew(i, all, resultOf(v, all));
        }
    }

    private void takeByJoin(int i, Row row, int mark) {
        View v = live.views.get(i);
        if (mark >= row.time + v.size + 1 + v.grace) {
            v.dropped++;
            return;
        }
        v.taken.add(new Taken(row, 0));
        for (Thing t : v.things) {
            Row other = t.rows.get(0);
            if (other.left != row.left && other.key == row.key && Math.abs(other.time - row.time) <= v.size) {
                Row left = row.left ? row : other;
                Row right = row.left ? other : row;
                Thing pair = new Thing(row.key, left.time, right.time);
                tellAnew(i, pair, new Told(row.key, left.time, right.time, left.value + right.value));
            }
        }
        Thing kept = new Thing(row.key, row.time, row.time);
        kept.rows.add(row);
        v.things.add(kept);
    }

    private void takeByVersions(int i, Row row, int mark) {
        View v = live.views.get(i);
        if (mark > row.time + v.grace) {
            v.dropped++;
            return;
        }
        v.taken.add(new Taken(row, 0));
        Thing kept = new Thing(row.key, row.time, row.time);
        kept.rows.add(row);
        v.things.add(kept);
        if (row.left) {
            if (mark > row.time) {
                tellAnew(i, kept, versioned(row, rowsOf(v.things)));
            }
            return;
        }
        for (Thing t : v.things) {
            if (t.rows.get(0).left && t.key == row.key && t.told != null) {
                tellAnew(i, t, versioned(t.rows.get(0), rowsOf(v.things)));
            }
        }
    }

    private static List<Row> rowsOf(List<Thing> things) {
        List<Row> rows = new ArrayList<>();
        for (Thing t : things) {
            rows.add(t.rows.get(0));
        }
        return rows;
    }

    private static Told versioned(Row left, List<Row> rows) {
        Row best = null;
        for (Row r : rows) {
            if (!r.left && r.key == left.key && r.time <= left.time) {
                if (best == null || r.time > best.time || r.time == best.time && r.value > best.value) {
                    best = r;
                }
            }
        }
        if (best == null) {
            return new Told(left.key, left.time, -1, left.value);
        }
        return new Told(left.key, left.time, best.time, left.value + best.value);
    }

    private static Told resultOf(View v, Thing t) {
        return new Told(t.key, t.from, t.to, measure(v.measure, t.rows));
    }

    private static int measure(char measure, List<Row> rows) {
        int sum = 0;
        int greatest = -100;
        for (Row r : rows) {
            sum += r.value;
            greatest = Math.max(greatest, r.value);
        }
        switch (measure) {
            case 'c':
                return rows.size();
            case 's':
                return sum;
            case 'x':
                return greatest;
            case 'b':
                return (byte) sum;
            default:
                return Float.floatToIntBits((float) sum / (float) rows.size());
        }
    }

    private void tellAnew(int i, Thing t, Told now) {
        if (t.told != null && t.told.like(now)) {
            return;
        }
        if (t.told != null) {
            takeBack(i, t);
        }
        t.told = now;
        live.views.get(i).told.add(now);
        waiting.add(new Output(i, now.key, now.from, now.to, now.value, 1));
    }

    private void takeBack(int i, Thing t) {
        live.views.get(i).told.remove(t.told);
        waiting.add(new Output(i, t.told.key, t.told.from, t.told.to, t.told.value, -1));
        t.told = null;
    }

    private void tellDue(int i) {
        View v = live.views.get(i);
        int mark = mark();
        List<Thing> due = new ArrayList<>();
        for (Thing t : v.things) {
            boolean now;
            if (v.kind == 't' || v.kind == 'l') {
                now = mark >= t.to;
            } else if (v.kind == 's') {
                now = mark > t.to + v.size;
            } else {
                now = v.kind == 'v' && t.rows.get(0).left && mark > t.from;
            }
            if (now && t.told == null) {
                due.add(t);
            }
        }
        due.sort(Comparator.<Thing>comparingInt(t -> t.to).thenComparingInt(t -> t.key));
        for (Thing t : due) {
            tellAnew(i, t, v.kind == 'v' ? versioned(t.rows.get(0), rowsOf(v.things)) : resultOf(v, t));
        }
    }

    private void letGo(View v) {
        int mark = mark();
        List<Thing> gone = new ArrayList<>();
        for (Thing t : v.things) {
            boolean go;
            if (v.kind == 't' || v.kind == 'l') {
                go = mark >= t.to + v.grace;
            } else if (v.kind == 's' || v.kind == 'j') {
                go = mark > t.to + 2 * v.size + v.grace;
            } else if (t.rows.get(0).left) {
                go = mark > t.from + v.grace;
            } else {
                go = isSurpassed(v, t, mark);
            }
            if (go) {
                gone.add(t);
            }
        }
        v.things.removeAll(gone);
    }

    private static boolean isSurpassed(View v, Thing t, int mark) {
        Row old = t.rows.get(0);
        boolean surpassed = false;
        for (Thing o : v.things) {
            Row r = o.rows.get(0);
            boolean later = v.things.indexOf(o) > v.things.indexOf(t);
            if (o != t && !r.left && o.key == t.key && r.time <= mark - v.grace) {
                surpassed |= r.time > old.time || r.time == old.time && r.value > old.value
                        || r.time == old.time && r.value == old.value && later;
            }
        }
        return surpassed;
    }

    int place(int part) {
        argument(part >= 0 && part <= 2);
        return live.places[part];
    }

    int markOf(int part) {
        argument(part >= 0 && part <= 2);
        return live.marks[part];
    }

    int mark() {
        return Math.min(live.marks[0], Math.min(live.marks[1], live.marks[2]));
    }

    int told(int view) {
        return viewAt(view).told.size();
    }

    List<Told> toldOf(int view) {
        return viewAt(view).told;
    }

    int valueOf(int view, int key, int from, int to) {
        return sumOf(viewAt(view).told, key, from, to);
    }

    int valueByAll(int view, int key, int from, int to) {
        return sumOf(foundBy(viewAt(view)), key, from, to);
    }

    private static int sumOf(List<Told> all, int key, int from, int to) {
        int sum = 0;
        boolean any = false;
        for (Told t : all) {
            if (t.key == key && t.from == from && t.to == to) {
                sum += t.value;
                any = true;
            }
        }
        if (!any) {
            throw new NoSuchElementException();
        }
        return sum;
    }

    private List<Told> foundBy(View v) {
        List<Told> found = new ArrayList<>();
        List<Row> rows = new ArrayList<>();
        for (Taken t : v.taken) {
            rows.add(t.row);
        }
        int mark = mark();
        if (v.kind == 't' || v.kind == 'l') {
            findWindows(v, mark, found);
        } else if (v.kind == 's') {
            findSessions(v, rows, mark, found);
        } else if (v.kind == 'j') {
            for (Row a : rows) {
                for (Row b : rows) {
                    if (a.left && !b.left && a.key == b.key && Math.abs(a.time - b.time) <= v.size) {
                        found.add(new Told(a.key, a.time, b.time, a.value + b.value));
                    }
                }
            }
        } else {
            for (Row a : rows) {
                if (a.left && mark > a.time) {
                    found.add(versioned(a, rows));
                }
            }
        }
        return found;
    }

    private static void findWindows(View v, int mark, List<Told> found) {
        for (int key = 0; key < 8; key++) {
            for (int begin = 0; begin < 1000 && begin + v.size <= mark; begin += v.step) {
                List<Row> in = new ArrayList<>();
                for (Taken t : v.taken) {
                    if (t.window == begin && t.row.key == key) {
                        in.add(t.row);
                    }
                }
                if (!in.isEmpty()) {
                    found.add(new Told(key, begin, begin + v.size, measure(v.measure, in)));
                }
            }
        }
    }

    private static void findSessions(View v, List<Row> rows, int mark, List<Told> found) {
        for (int key = 0; key < 8; key++) {
            List<Row> of = new ArrayList<>();
            for (Row r : rows) {
                if (r.key == key) {
                    of.add(r);
                }
            }
            of.sort(Comparator.comparingInt(r -> r.time));
            int start = 0;
            for (int i = 0; i < of.size(); i++) {
                if (i + 1 == of.size() || of.get(i + 1).time > of.get(i).time + v.size) {
                    if (mark > of.get(i).time + v.size) {
                        int value = measure(v.measure, of.subList(start, i + 1));
                        found.add(new Told(key, of.get(start).time, of.get(i).time, value));
                    }
                    start = i + 1;
                }
            }
        }
    }

    int firstFrom(int view, int key) {
        int least = 1000;
        for (Told t : viewAt(view).told) {
            least = t.key == key ? Math.min(least, t.from) : least;
        }
        if (least == 1000) {
            throw new NoSuchElementException();
        }
        return least;
    }

    int dropped(int view) {
        return viewAt(view).dropped;
    }

    int held(int view) {
        return viewAt(view).things.size();
    }

    int waiting() {
        return waiting.size();
    }

    int cut() {
        state(open == null);
        everCut = true;
        open = bytesOf(live);
        prepared.addAll(waiting);
        waiting.clear();
        return prepared.size();
    }

    int complete() {
        state(open != null);
        completed = open;
        open = null;
        promised.addAll(prepared);
        prepared.clear();
        return promised.size();
    }

    int crash() {
        int lost = waiting.size() + prepared.size();
        waiting.clear();
        prepared.clear();
        open = null;
        live = stateOf(completed);
        return lost;
    }

    int promised() {
        return promised.size();
    }

    int outputAt(int output, int what) {
        return detail(promised, output, what);
    }

    int waitingAt(int output, int what) {
        return detail(waiting, output, what);
    }

    private static int detail(List<Output> outputs, int output, int what) {
        if (output < 0 || output >= outputs.size()) {
            throw new IndexOutOfBoundsException();
        }
        argument(what >= 0 && what <= 5);
        Output o = outputs.get(output);
        return new int[] {o.view, o.key, o.from, o.to, o.value, o.sign}[what];
    }

    int promisedSum(int view) {
        viewAt(view);
        int sum = 0;
        for (Output o : promised) {
            sum += o.view == view ? o.sign : 0;
        }
        return sum;
    }

    int moveKey(int key, int worker) {
        argument(key >= 0 && key <= 7 && worker >= 0 && worker <= 2);
        workers[key] = worker;
        return heldOf(key);
    }

    private int heldOf(int key) {
        int held = 0;
        for (View v : live.views) {
            for (Thing t : v.things) {
                held += t.key == key ? 1 : 0;
            }
        }
        return held;
    }

    int workerOf(int key) {
        argument(key >= 0 && key <= 7);
        return workers[key];
    }

    int load(int worker) {
        argument(worker >= 0 && worker <= 2);
        int held = 0;
        for (int key = 0; key < 8; key++) {
            held += workers[key] == worker ? heldOf(key) : 0;
        }
        return held;
    }

    float meanOf(int view, int key) {
        long sum = 0;
        int number = 0;
        for (Told t : viewAt(view).told) {
            if (t.key == key) {
                sum += t.value;
                number++;
            }
        }
        if (number == 0) {
            throw new NoSuchElementException();
        }
        return (float) Math.floor((double) sum / (double) number);
    }

    int rest(int view, int key, int divisor) {
        float mean = meanOf(view, key);
        argument(divisor != 0);
        return Float.floatToIntBits(mean % ((float) divisor / 4f));
    }

    double droppedShare() {
        int rows = 0;
        for (int part = 0; part < 3; part++) {
            for (Row r : logs.get(part).subList(0, live.places[part])) {
                rows += r.mark ? 0 : 1;
            }
        }
        if (rows == 0) {
            throw new NoSuchElementException();
        }
        int dropped = 0;
        for (View v : live.views) {
            dropped += v.dropped;
        }
        return (double) dropped / (double) rows;
    }

    boolean isSound() {
        boolean sound = true;
        for (View v : live.views) {
            List<Told> found = foundBy(v);
            for (Told t : v.told) {
                Told like = null;
                for (Told f : found) {
                    like = f.like(t) ? f : like;
                }
                sound &= found.remove(like);
            }
            sound &= found.isEmpty();
        }
        return sound;
    }
}
