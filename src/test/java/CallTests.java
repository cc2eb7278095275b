import java.util.ArrayList;
import java.util.List;

/** For each promise the edges that its sentences name, and the calls that are refused: just those, and without a trace. */
public final class CallTests extends Checks {
    private static final int NO = Integer.MIN_VALUE;

    /** A call on an object that is made later. */
    private interface Use {
        Object on(ViewFoundry f);
    }

    private record Refused(Class<?> want, Use use) { }

    public static void main(String[] args) {
        aNewObject();
        rowsInRange();
        marksInRange();
        slacks();
        kindsMeasuresFilters();
        sizesStepsGraces();
        whenViewsAreRefused();
        parts();
        reads();
        viewNumbers();
        results();
        leastFroms();
        waitingOutputs();
        cutsAndCompletions();
        lostOutputs();
        outputNumbers();
        promisedSums();
        keysAndWorkers();
        means();
        rests();
        shares();
        soundness();
        severalExceptions();
        refusedWithoutATrace();
        end();
    }

    /** Numbers beyond a range: the nearest, the farthest, and those that a narrower type would take for one within. */
    private static int[] outside(int low, int high) {
        return new int[] {low - 1, high + 1, Integer.MIN_VALUE, Integer.MAX_VALUE, low - 256, low + 2048, low + 65536};
    }

    private static void aNewObject() {
        about = "promise 1: Creates a foundry without entries and views.";
        ViewFoundry f = new ViewFoundry();
        for (int part = 0; part < 3; part++) {
            is(0, f.entries(part));
            is(0, f.place(part));
            is(-1, f.markOf(part));
            is(0, f.setSlack(part, 0));
            is(0, f.load(part));
        }
        is(-1, f.mark());
        is(0, f.waiting());
        is(0, f.promised());
        is(0, f.crash());
        is(true, f.isSound());
        fails(BOUNDS, () -> f.held(0));
        fails(BOUNDS, () -> f.outputAt(0, 0));
        fails(BOUNDS, () -> f.waitingAt(0, 0));
        fails(STATE, () -> f.complete());
        fails(NONE, () -> f.droppedShare());
        // Objects share nothing.
        f.putRow(0, 1, 5, 5);
        f.addView('t', 'c', 'a', 1, 1, 0);
        f.moveKey(0, 2);
        ViewFoundry other = new ViewFoundry();
        is(0, other.entries(0));
        is(0, other.workerOf(0));
        fails(BOUNDS, () -> other.told(0));
    }

    private static void rowsInRange() {
        about = "promise 2: IllegalArgumentException if there is no such part or key, or the time or the value is out of range";
        ViewFoundry f = new ViewFoundry();
        ViewFoundry full = new ViewFoundry();
        for (int i = 0; i < 80; i++) {
            is(i, full.putRow(0, 0, 0, 0));
        }
        for (ViewFoundry one : new ViewFoundry[] {f, full}) {
            for (int wrong : outside(0, 2)) {
                fails(ARGUMENT, () -> one.putRow(wrong, 0, 0, 0));
            }
            for (int wrong : outside(0, 7)) {
                fails(ARGUMENT, () -> one.putRow(0, wrong, 0, 0));
            }
            for (int wrong : outside(0, 999)) {
                fails(ARGUMENT, () -> one.putRow(0, 0, wrong, 0));
            }
            for (int wrong : outside(-99, 99)) {
                fails(ARGUMENT, () -> one.putRow(0, 0, 0, wrong));
            }
        }
        is(0, f.entries(0));
        int number = 0;
        for (int key : new int[] {0, 7}) {
            for (int time : new int[] {0, 999}) {
                for (int value : new int[] {-99, 0, 99}) {
                    for (int part = 0; part < 3; part++) {
                        is(number, f.putRow(part, key, time, value));
                    }
                    number++;
                }
            }
        }
        about = "promise 2: IllegalStateException if the log has 80 entries";
        is(80, full.entries(0));
        fails(STATE, () -> full.putRow(0, 0, 0, 0));
        fails(STATE, () -> full.putRow(0, 7, 999, 99));
        is(0, full.putRow(1, 0, 0, 0));
        is(0, full.putRow(2, 0, 0, 0));
    }

    private static void marksInRange() {
        about = "promise 3: IllegalArgumentException if there is no such part, or the time is out of range";
        ViewFoundry f = new ViewFoundry();
        ViewFoundry full = new ViewFoundry();
        for (int i = 0; i < 80; i++) {
            is(i, full.putMark(2, 0));
        }
        for (ViewFoundry one : new ViewFoundry[] {f, full}) {
            for (int wrong : outside(0, 2)) {
                fails(ARGUMENT, () -> one.putMark(wrong, 0));
            }
            for (int wrong : outside(0, 999)) {
                fails(ARGUMENT, () -> one.putMark(2, wrong));
            }
        }
        for (int part = 0; part < 3; part++) {
            is(0, f.putMark(part, 0));
            is(1, f.putMark(part, 999));
        }
        about = "promise 3: IllegalStateException if the log has 80 entries";
        fails(STATE, () -> full.putMark(2, 0));
        fails(STATE, () -> full.putMark(2, 999));
        is(0, full.putMark(0, 0));
    }

    private static void slacks() {
        about = "promise 4: IllegalArgumentException if there is no such part, or the slack is out of range";
        ViewFoundry f = new ViewFoundry();
        ViewFoundry viewed = with('t', 'c', 'a', 1, 1, 0);
        for (ViewFoundry one : new ViewFoundry[] {f, viewed}) {
            for (int wrong : outside(0, 2)) {
                fails(ARGUMENT, () -> one.setSlack(wrong, 0));
            }
            for (int wrong : outside(0, 99)) {
                fails(ARGUMENT, () -> one.setSlack(1, wrong));
            }
        }
        about = "promise 4: Sets the slack of a part, 0 at first.";
        for (int part = 0; part < 3; part++) {
            is(0, f.setSlack(part, 99));
            is(99, f.setSlack(part, 0));
            is(0, f.setSlack(part, 1 + part));
        }
        for (int part = 0; part < 3; part++) {
            is(1 + part, f.setSlack(part, 0));
        }
        about = "promise 4: IllegalStateException if there are views";
        for (int part = 0; part < 3; part++) {
            int own = part;
            fails(STATE, () -> viewed.setSlack(own, 0));
        }
        viewed.crash();
        fails(STATE, () -> viewed.setSlack(0, 99));
        // Neither entries nor cuts are in the way.
        row(f, 0, 0, 5, 0);
        f.cut();
        is(0, f.setSlack(0, 7));
        row(f, 0, 0, 13, 0);
        is(6, f.markOf(0));
    }

    private static void kindsMeasuresFilters() {
        about = "promise 5: IllegalArgumentException if there is no such kind, measure or filter";
        // Of all chars, just these; a new object for each, as one is not used for so many calls.
        int kinds = 0;
        int measures = 0;
        int filters = 0;
        for (char sign = 0; sign < Character.MAX_VALUE; sign++) {
            kinds += isAdded(sign, 'c', 'a') ? 1 : 0;
            measures += isAdded('t', sign, 'a') ? 1 : 0;
            filters += isAdded('t', 'c', sign) ? 1 : 0;
        }
        is(5, kinds);
        is(5, measures);
        is(3, filters);
        is(false, isAdded(Character.MAX_VALUE, 'c', 'a') || isAdded('t', Character.MAX_VALUE, 'a')
                || isAdded('t', 'c', Character.MAX_VALUE));
        for (char kind : "tlsjv".toCharArray()) {
            for (char measure : "csxbm".toCharArray()) {
                for (char filter : "aep".toCharArray()) {
                    is(true, isAdded(kind, measure, filter));
                }
            }
            is(false, isAdded(kind, 'a', 'a'));
            is(false, isAdded(kind, 'c', 'c'));
        }
    }

    private static boolean isAdded(char kind, char measure, char filter) {
        return isAdded(kind, measure, filter, 1, 1, 0);
    }

    private static boolean isAdded(char kind, char measure, char filter, int size, int step, int grace) {
        try {
            return with(kind, measure, filter, size, step, grace).told(0) == 0;
        } catch (IllegalArgumentException e) {
            return false;
        }
    }

    private static void sizesStepsGraces() {
        about = "promise 5: or a number is out of range, the step only for 'l'";
        for (char kind : "tlsjv".toCharArray()) {
            for (int size : new int[] {1, 2, 199, 200}) {
                is(true, isAdded(kind, 'c', 'a', size, 1, 0));
                is(true, isAdded(kind, 'c', 'a', size, size, 200));
                for (int step : outside(1, size)) {
                    is(kind != 'l', isAdded(kind, 'c', 'a', size, step, 0));
                }
                for (int grace : outside(0, 200)) {
                    is(false, isAdded(kind, 'c', 'a', size, 1, grace));
                }
            }
            for (int size : outside(1, 200)) {
                is(false, isAdded(kind, 'c', 'a', size, 1, 0));
                is(false, isAdded(kind, 'c', 'a', size, size, 0));
            }
        }
        about = "promise 5: step: of no meaning but for 'l'";
        for (char kind : "tsjv".toCharArray()) {
            for (int step : outside(1, 10)) {
                ViewFoundry f = with(kind, 'c', 'a', 10, step, 0);
                row(f, 0, 1, 15, 3);
                row(f, 2, 1, 15, 4);
                mark(f, 40);
                is(kind == 't' ? "0 1 10 20 1 1" : kind == 's' ? "0 1 15 15 1 1" : "0 1 15 15 7 1", waitsFrom(f, 0));
            }
        }
    }

    private static void whenViewsAreRefused() {
        about = "promise 5: IllegalStateException if there are 5 views";
        ViewFoundry five = new ViewFoundry();
        for (int i = 0; i < 5; i++) {
            is(i, five.addView('l', 'c', 'a', 200, 1, 200));
        }
        fails(STATE, () -> five.addView('l', 'c', 'a', 200, 1, 200));
        five.crash();
        fails(STATE, () -> five.addView('t', 'c', 'a', 1, 1, 0));
        fails(ARGUMENT, () -> five.addView('l', 'c', 'a', 200, 201, 200));
        is(0, five.told(4));
        about = "promise 5: or an entry was ever read";
        ViewFoundry read = with('t', 'c', 'a', 1, 1, 0);
        is(0, read.read(0, 20));
        is(1, read.addView('t', 'c', 'a', 1, 1, 0));
        read.putRow(2, 0, 0, 0);
        fails(ARGUMENT, () -> read.read(2, 0));
        is(2, read.addView('t', 'c', 'a', 1, 1, 0));
        read.read(2, 1);
        fails(STATE, () -> read.addView('t', 'c', 'a', 1, 1, 0));
        fails(ARGUMENT, () -> read.addView('x', 'c', 'a', 1, 1, 0));
        ViewFoundry mark = new ViewFoundry();
        markIn(mark, 1, 0);
        fails(STATE, () -> mark.addView('t', 'c', 'a', 1, 1, 0));
        about = "promise 5: or a cut was ever made";
        ViewFoundry cut = new ViewFoundry();
        fails(STATE, () -> cut.complete());
        is(0, cut.addView('t', 'c', 'a', 1, 1, 0));
        cut.cut();
        fails(STATE, () -> cut.addView('t', 'c', 'a', 1, 1, 0));
        cut.complete();
        fails(STATE, () -> cut.addView('t', 'c', 'a', 1, 1, 0));
        about = "promise 5: whatever crashed since";
        ViewFoundry open = new ViewFoundry();
        open.crash();
        is(0, open.addView('t', 'c', 'a', 1, 1, 0));
        open.cut();
        for (ViewFoundry one : new ViewFoundry[] {read, mark, cut, open}) {
            one.crash();
            fails(STATE, () -> one.addView('t', 'c', 'a', 1, 1, 0));
            fails(ARGUMENT, () -> one.addView('t', 'c', 'a', 1, 1, 201));
        }
    }

    private static void parts() {
        about = "promises 6, 7, 8, 9: IllegalArgumentException if there is no such part";
        ViewFoundry f = new ViewFoundry();
        for (int wrong : outside(0, 2)) {
            fails(ARGUMENT, () -> f.entries(wrong));
            fails(ARGUMENT, () -> f.read(wrong, 1));
            fails(ARGUMENT, () -> f.place(wrong));
            fails(ARGUMENT, () -> f.markOf(wrong));
        }
        for (int part = 0; part < 3; part++) {
            is(0, f.putMark(part, 4 + part));
            is(1, f.putRow(part, 0, 9 + part, 0));
            is(2, f.entries(part));
            is(0, f.place(part));
            is(-1, f.markOf(part));
            is(1, f.read(part, 1));
            is(2, f.entries(part));
            is(1, f.place(part));
            is(4 + part, f.markOf(part));
        }
        is(4, f.mark());
    }

    private static void reads() {
        about = "promise 7: IllegalArgumentException if the number is out of range";
        ViewFoundry f = new ViewFoundry();
        for (int wrong : outside(1, 20)) {
            fails(ARGUMENT, () -> f.read(0, wrong));
        }
        f.putMark(0, 0);
        for (int wrong : outside(1, 20)) {
            fails(ARGUMENT, () -> f.read(0, wrong));
        }
        is(0, f.place(0));
        about = "promise 7: Reads entries of a part, one after the other, as long as there are some.";
        is(0, f.read(1, 1));
        is(0, f.read(1, 20));
        is(1, f.read(0, 20));
        is(0, f.read(0, 1));
        for (int i = 0; i < 20; i++) {
            f.putMark(0, i);
        }
        is(20, f.read(0, 20));
        is(21, f.place(0));
        is(19, f.markOf(0));
        for (int i = 0; i < 21; i++) {
            f.putMark(0, 20 + i);
        }
        is(1, f.read(0, 1));
        is(20, f.markOf(0));
        is(19, f.read(0, 19));
        is(39, f.markOf(0));
        is(1, f.read(0, 2));
        is(0, f.read(0, 20));
        is(42, f.place(0));
        is(0, f.place(1));
    }

    private static void viewNumbers() {
        about = "promises 11 to 16, 24, 28, 29: IndexOutOfBoundsException if there is no such view";
        ViewFoundry f = new ViewFoundry();
        for (int views = 0; views <= 5; views++) {
            for (int wrong : new int[] {-1, views, 5, Integer.MIN_VALUE, Integer.MAX_VALUE}) {
                fails(BOUNDS, () -> f.told(wrong));
                fails(BOUNDS, () -> f.valueOf(wrong, 0, 0, 1));
                fails(BOUNDS, () -> f.valueByAll(wrong, 0, 0, 1));
                fails(BOUNDS, () -> f.firstFrom(wrong, 0));
                fails(BOUNDS, () -> f.dropped(wrong));
                fails(BOUNDS, () -> f.held(wrong));
                fails(BOUNDS, () -> f.promisedSum(wrong));
                fails(BOUNDS, () -> f.meanOf(wrong, 0));
                fails(BOUNDS, () -> f.rest(wrong, 0, 0));
            }
            int last = views - 1;
            if (last >= 0) {
                is(0, f.told(last));
                fails(NONE, () -> f.valueOf(last, 0, 0, 1));
                fails(NONE, () -> f.valueByAll(last, 0, 0, 1));
                fails(NONE, () -> f.firstFrom(last, 0));
                is(0, f.dropped(last));
                is(0, f.held(last));
                is(0, f.promisedSum(last));
                fails(NONE, () -> f.meanOf(last, 0));
                fails(NONE, () -> f.rest(last, 0, 0));
            }
            if (views < 5) {
                f.addView('t', 'c', 'a', 1, 1, 0);
            }
        }
    }

    private static void results() {
        about = "promises 12 and 13: NoSuchElementException if there is none";
        ViewFoundry f = with('v', 'c', 'a', 1, 1, 0);
        row(f, 0, 0, 0, 5);
        row(f, 0, 0, 0, -3);
        mark(f, 1);
        about = "promise 12: of several with the same key, from and to, the sum";
        is(2, f.told(0));
        is(2, f.valueOf(0, 0, 0, -1));
        is(2, f.valueByAll(0, 0, 0, -1));
        int[][] others = {{1, 0, -1}, {8, 0, -1}, {-1, 0, -1}, {-8, 0, -1}, {0, 1, -1}, {0, -1, -1}, {0, 1024, -1},
            {0, -1024, -1}, {0, 0, 0}, {0, 0, -2}, {0, 0, 2047}, {0, 0, -2049}, {NO, 0, -1}, {0, NO, -1}, {0, 0, NO},
            {Integer.MAX_VALUE, 0, -1}, {0, Integer.MAX_VALUE, -1}, {0, 0, Integer.MAX_VALUE}, {0, 0, 1023}};
        for (int[] other : others) {
            fails(NONE, () -> f.valueOf(0, other[0], other[1], other[2]));
            fails(NONE, () -> f.valueByAll(0, other[0], other[1], other[2]));
        }
        about = "promise 12: of several with the same key, from and to, the sum: 0 is not none";
        row(f, 0, 0, 5, 3);
        row(f, 0, 0, 5, -3);
        row(f, 0, 7, 5, 0);
        mark(f, 6);
        is(0, f.valueOf(0, 0, 5, -1));
        is(0, f.valueByAll(0, 0, 5, -1));
        is(0, f.valueOf(0, 7, 5, -1));
        is(5, f.told(0));
        about = "promise 13: found from all rows that the view has taken and not dropped";
        row(f, 0, 0, 5, 50);
        is(1, f.dropped(0));
        is(0, f.valueByAll(0, 0, 5, -1));
        // Not due, so not told: by all there is none, either.
        row(f, 0, 0, 6, 50);
        fails(NONE, () -> f.valueOf(0, 0, 6, -1));
        fails(NONE, () -> f.valueByAll(0, 0, 6, -1));
        is(true, f.isSound());
    }

    private static void leastFroms() {
        about = "promise 14: Returns the least from of all results of a key that are told.";
        ViewFoundry f = with('t', 'c', 'a', 1, 1, 200);
        free(f);
        row(f, 0, 7, 100, 1);
        row(f, 0, 7, 99, 1);
        row(f, 0, 0, 102, 1);
        is(99, f.firstFrom(0, 7));
        fails(NONE, () -> f.firstFrom(0, 0));
        row(f, 0, 7, 1, 1);
        is(1, f.firstFrom(0, 7));
        row(f, 0, 7, 0, 1);
        is(0, f.firstFrom(0, 7));
        row(f, 0, 7, 50, 1);
        is(0, f.firstFrom(0, 7));
        markIn(f, 0, 999);
        is(102, f.firstFrom(0, 0));
        row(f, 0, 0, 998, 1);
        is(102, f.firstFrom(0, 0));
        for (int key : outside(0, 7)) {
            fails(NONE, () -> f.firstFrom(0, key));
        }
        for (int key = 1; key < 7; key++) {
            int none = key;
            fails(NONE, () -> f.firstFrom(0, none));
        }
        about = "promise 14: of all results that are told: not of those taken back";
        ViewFoundry s = with('s', 'c', 'a', 2, 1, 200);
        mark(s, 20);
        row(s, 0, 1, 17, 1);
        is(17, s.firstFrom(0, 1));
        row(s, 0, 1, 18, 1);
        fails(NONE, () -> s.firstFrom(0, 1));
        row(s, 0, 1, 0, 1);
        is(0, s.firstFrom(0, 1));
    }

    private static void waitingOutputs() {
        about = "promise 17: since the last cut, open or completed, or behind a crash, or the beginning";
        ViewFoundry f = with('t', 'c', 'a', 1, 1, 200);
        is(0, f.waiting());
        mark(f, 10);
        is(0, f.waiting());
        row(f, 0, 1, 0, 1);
        is(1, f.waiting());
        f.cut();
        is(0, f.waiting());
        row(f, 0, 1, 1, 1);
        is(1, f.waiting());
        f.complete();
        is(1, f.waiting());
        row(f, 0, 1, 2, 1);
        is(2, f.waiting());
        f.crash();
        is(0, f.waiting());
        f.read(0, 1);
        is(1, f.waiting());
        is("0 1 1 2 1 1", waitsFrom(f, 0));
        f.cut();
        f.crash();
        is(0, f.waiting());
        f.read(0, 20);
        is("0 1 1 2 1 1, 0 1 2 3 1 1", waitsFrom(f, 0));
        f.cut();
        f.complete();
        is(0, f.waiting());
    }

    private static void cutsAndCompletions() {
        about = "promise 18: IllegalStateException if a cut is open";
        ViewFoundry f = with('t', 'c', 'a', 1, 1, 200);
        is(0, f.cut());
        fails(STATE, () -> f.cut());
        mark(f, 10);
        row(f, 0, 1, 0, 1);
        fails(STATE, () -> f.cut());
        is(1, f.waiting());
        about = "promise 19: Returns how many outputs are promised then, in all.";
        is(0, f.complete());
        about = "promise 19: IllegalStateException if no cut is open";
        fails(STATE, () -> f.complete());
        about = "promise 18: Returns how many outputs are prepared by it.";
        is(1, f.cut());
        row(f, 0, 1, 1, 1);
        row(f, 0, 1, 2, 1);
        about = "promise 19: Returns how many outputs are promised then, in all.";
        is(1, f.complete());
        is(1, f.promised());
        is(2, f.cut());
        is(3, f.complete());
        is(3, f.promised());
        fails(STATE, () -> f.complete());
        is(0, f.cut());
        is(3, f.complete());
        about = "promise 19: IllegalStateException if no cut is open: behind a crash none is";
        f.cut();
        f.crash();
        fails(STATE, () -> f.complete());
        is(3, f.promised());
        is(0, f.cut());
    }

    private static void lostOutputs() {
        about = "promise 20: Returns how many outputs are lost: those that wait, and those that were prepared by an open cut.";
        // Neither, waiting ones alone, prepared ones alone, both, and none as all are promised.
        int[][] cases = {{0, 0, 0}, {1, 0, 1}, {0, 1, 2}, {1, 1, 3}, {0, 2, 0}, {1, 2, 1}};
        for (int[] one : cases) {
            ViewFoundry f = with('t', 'c', 'a', 1, 1, 200);
            mark(f, 10);
            if (one[1] > 0) {
                row(f, 0, 1, 0, 1);
                row(f, 0, 1, 1, 1);
                f.cut();
            }
            if (one[1] > 1) {
                f.complete();
            }
            if (one[0] > 0) {
                row(f, 1, 1, 2, 1);
            }
            is(one[2], f.crash());
            is(0, f.crash());
            is(one[1] > 1 ? 2 : 0, f.promised());
        }
    }

    private static void outputNumbers() {
        about = "promise 22: IndexOutOfBoundsException if there is no such output";
        ViewFoundry f = with('t', 'c', 'a', 1, 1, 200);
        mark(f, 10);
        row(f, 0, 7, 0, 1);
        row(f, 0, 7, 0, 1);
        f.cut();
        fails(BOUNDS, () -> f.outputAt(0, 0));
        f.complete();
        row(f, 0, 7, 9, 1);
        row(f, 0, 7, 9, 1);
        for (int output : outside(0, 2)) {
            fails(BOUNDS, () -> f.outputAt(output, 0));
            fails(BOUNDS, () -> f.outputAt(output, 6));
            about = "promise 23: IndexOutOfBoundsException if there is no such output";
            fails(BOUNDS, () -> f.waitingAt(output, 0));
            fails(BOUNDS, () -> f.waitingAt(output, -1));
        }
        for (int what : outside(0, 5)) {
            for (int output : new int[] {0, 2}) {
                about = "promise 22: IllegalArgumentException if what is asked is none of these";
                fails(ARGUMENT, () -> f.outputAt(output, what));
                about = "promise 23: IllegalArgumentException if what is asked is none of these";
                fails(ARGUMENT, () -> f.waitingAt(output, what));
            }
        }
        about = "promise 22: from 0, of those that are promised";
        is("0 7 0 1 1 1", isPromised(f, 0));
        is("0 7 0 1 1 -1", isPromised(f, 1));
        is("0 7 0 1 2 1", isPromised(f, 2));
        about = "promise 23: from 0, of those since the last cut";
        is("0 7 9 10 1 1, 0 7 9 10 1 -1, 0 7 9 10 2 1", waitsFrom(f, 0));
        f.cut();
        row(f, 0, 0, 8, 1);
        is("0 0 8 9 1 1", waitsFrom(f, 0));
        fails(BOUNDS, () -> f.waitingAt(1, 0));
        fails(BOUNDS, () -> f.outputAt(3, 0));
        f.crash();
        fails(BOUNDS, () -> f.waitingAt(0, 0));
        fails(BOUNDS, () -> f.waitingAt(0, 6));
        is("0 7 0 1 2 1", isPromised(f, 2));
    }

    private static void promisedSums() {
        about = "promise 24: of 1 for each that tells and -1 for each that takes back";
        ViewFoundry f = with('s', 'c', 'a', 2, 1, 200);
        f.addView('t', 'c', 'a', 1, 1, 200);
        mark(f, 20);
        row(f, 0, 1, 17, 1);
        is(0, f.promisedSum(0));
        f.cut();
        is(0, f.promisedSum(0));
        f.complete();
        is(1, f.promisedSum(0));
        is(1, f.promisedSum(1));
        // The session is taken back, and what it becomes is not due.
        row(f, 0, 1, 18, 1);
        is(1, f.promisedSum(0));
        f.crash();
        is(1, f.promisedSum(0));
        f.read(0, 1);
        f.cut();
        f.complete();
        is(0, f.promisedSum(0));
        is(2, f.promisedSum(1));
        f.crash();
        is(0, f.promisedSum(0));
        is(2, f.promisedSum(1));
    }

    private static void keysAndWorkers() {
        about = "promises 25, 26, 27: IllegalArgumentException if there is no such key or worker";
        ViewFoundry f = with('j', 'c', 'a', 1, 1, 0);
        row(f, 0, 7, 5, 1);
        row(f, 2, 7, 5, 1);
        for (int wrong : outside(0, 7)) {
            fails(ARGUMENT, () -> f.moveKey(wrong, 0));
            fails(ARGUMENT, () -> f.workerOf(wrong));
        }
        for (int wrong : outside(0, 2)) {
            fails(ARGUMENT, () -> f.moveKey(7, wrong));
            fails(ARGUMENT, () -> f.load(wrong));
        }
        is(1, f.workerOf(7));
        about = "promise 25: Returns how many things are held of it.";
        is(2, f.moveKey(7, 1));
        is(2, f.load(1));
        is(2, f.moveKey(7, 0));
        is(2, f.moveKey(7, 2));
        is(0, f.moveKey(0, 1));
        is(2, f.workerOf(7));
        is(2, f.load(2));
        is(0, f.load(1));
        about = "promise 25: a crash does not change this";
        f.cut();
        f.complete();
        f.moveKey(6, 2);
        f.crash();
        is(2, f.workerOf(7));
        is(1, f.workerOf(0));
        is(2, f.workerOf(6));
        about = "promise 27: Returns how many things are held of all keys that are on a worker.";
        for (int key = 0; key < 8; key++) {
            row(f, 0, key, 5, 1);
            f.moveKey(key, 1);
        }
        is(10, f.load(1));
        is(0, f.load(0));
        is(0, f.load(2));
    }

    /** A foundry with results of the key 1 that have these values, one after the other. */
    private static ViewFoundry withResults(char measure, int... values) {
        ViewFoundry f = with('t', measure, 'a', 1, 1, 0);
        for (int i = 0; i < values.length; i++) {
            row(f, 0, 1, i, values[i]);
        }
        mark(f, 999);
        return f;
    }

    private static void means() {
        about = "promise 28: divided by their number, then rounded down as Math.floor does";
        is(5f, withResults('s', 5).meanOf(0, 1));
        is(1f, withResults('s', 1, 2).meanOf(0, 1));
        is(-2f, withResults('s', -1, -2).meanOf(0, 1));
        is(-1f, withResults('s', -1, 0).meanOf(0, 1));
        is(-1f, withResults('s', -1, 0, 0, 0, 0, 0, 0, 0).meanOf(0, 1));
        is(0f, withResults('s', 1, 0).meanOf(0, 1));
        is(0f, withResults('s', 1, -1).meanOf(0, 1));
        is(-7f, withResults('s', -7, -7).meanOf(0, 1));
        is(99f, withResults('s', 99, 99).meanOf(0, 1));
        is(-99f, withResults('s', -99, -99).meanOf(0, 1));
        about = "promise 28: of the results of a key: of each key, from the first time on";
        for (int key = 0; key < 8; key++) {
            ViewFoundry f = with('t', 's', 'a', 1, 1, 0);
            row(f, 0, key, 0, 8);
            row(f, 0, key, 998, 6);
            row(f, 0, (key + 1) % 8, 5, 99);
            mark(f, 999);
            is(7f, f.meanOf(0, key));
            is(99f, f.meanOf(0, (key + 1) % 8));
        }
        about = "promise 28: the sum of their values, converted to double: beyond an int";
        // The bits of 99 are 1120272384, those of -99 are -1027211264, and those of 98 are 1120141312.
        is(1120272384f, withResults('m', 99, 99).meanOf(0, 1));
        is(1120272384f, withResults('m', 99, 99, 99, 99, 99).meanOf(0, 1));
        is(-1027211264f, withResults('m', -99, -99, -99).meanOf(0, 1));
        is(1120206848f, withResults('m', 99, 98).meanOf(0, 1));
        about = "promise 28: and converted to float";
        // The bits of 1 and twice those of 0: 1065353216 by 3 is 355117738 and two thirds; floats are 32 apart there.
        is(355117728f, withResults('m', 1, 0, 0).meanOf(0, 1));
        about = "promise 28: NoSuchElementException if there is none";
        ViewFoundry f = withResults('s', 5);
        row(f, 0, 2, 999, 5);
        for (int key : new int[] {0, 2, 7, -1, 8, 9, Integer.MIN_VALUE, Integer.MAX_VALUE}) {
            fails(NONE, () -> f.meanOf(0, key));
        }
    }

    private static int bits(float figure) {
        return Float.floatToIntBits(figure);
    }

    private static void rests() {
        about = "promise 29: divided by the divisor divided by 4, in floats, as Java does with %";
        ViewFoundry nine = withResults('s', 9);
        ViewFoundry less = withResults('s', -9);
        // Divisors in quarters, and what is left of 9.
        float[][] lefts = {{1, 0f}, {2, 0f}, {3, 0f}, {5, 0.25f}, {7, 0.25f}, {8, 1f}, {35, 0.25f}, {36, 0f}, {37, 9f},
            {40, 9f}, {Integer.MAX_VALUE, 9f}};
        for (float[] one : lefts) {
            int divisor = (int) one[0];
            is(bits(one[1]), nine.rest(0, 1, divisor));
            is(bits(one[1]), nine.rest(0, 1, -divisor));
            // The rest has the sign of the mean, a negative zero too.
            is(bits(-one[1]), less.rest(0, 1, divisor));
            is(bits(-one[1]), less.rest(0, 1, -divisor));
        }
        is(bits(9f), nine.rest(0, 1, Integer.MIN_VALUE));
        is(bits(-9f), less.rest(0, 1, Integer.MIN_VALUE));
        ViewFoundry zero = withResults('s', 0);
        for (int divisor : new int[] {1, -1, 4, Integer.MIN_VALUE, Integer.MAX_VALUE}) {
            is(0, zero.rest(0, 1, divisor));
        }
        // Great means: the bits of 99, and a divisor that is not to be told as a float.
        ViewFoundry great = withResults('m', 99);
        is(bits(1120272384f % (16777217 / 4f)), great.rest(0, 1, 16777217));
        is(bits(1120272384f % 536870912f), great.rest(0, 1, Integer.MAX_VALUE));
        is(bits(1120272384f % 536870912f), great.rest(0, 1, Integer.MIN_VALUE));
        is(bits(1120272384f % 0.75f), great.rest(0, 1, 3));
        about = "promise 29: IllegalArgumentException if the divisor is 0";
        fails(ARGUMENT, () -> nine.rest(0, 1, 0));
        fails(ARGUMENT, () -> zero.rest(0, 1, 0));
        about = "promise 29: NoSuchElementException if there is none";
        for (int key : new int[] {0, 2, -1, 8, 9, Integer.MIN_VALUE, Integer.MAX_VALUE}) {
            fails(NONE, () -> nine.rest(0, key, 1));
            fails(NONE, () -> nine.rest(0, key, 0));
        }
        about = "promise 29: IndexOutOfBoundsException if there is no such view, and of several exceptions the first";
        fails(BOUNDS, () -> nine.rest(1, 1, 1));
        fails(BOUNDS, () -> nine.rest(-1, 8, 0));
    }

    private static void shares() {
        about = "promise 30: NoSuchElementException if there are no such rows";
        ViewFoundry f = with('l', 'c', 'p', 2, 1, 0);
        f.addView('v', 'c', 'a', 2, 1, 0);
        fails(NONE, () -> f.droppedShare());
        f.putMark(0, 20);
        f.putRow(0, 1, 5, 1);
        fails(NONE, () -> f.droppedShare());
        free(f);
        f.read(0, 1);
        fails(NONE, () -> f.droppedShare());
        about = "promise 30: the sum of the numbers that all views tell, divided by how many rows stand ahead of the places";
        // Dropped by two windows and by the view of versions: more than there are rows.
        f.read(0, 1);
        is(3.0, f.droppedShare());
        row(f, 2, 1, 5, 1);
        is(2.0, f.droppedShare());
        row(f, 1, 1, 30, 1);
        is(4.0 / 3.0, f.droppedShare());
        // Marks, and rows that were not read, are not counted; rows that no view lets in are.
        markIn(f, 0, 25);
        f.putRow(1, 1, 30, 1);
        is(4.0 / 3.0, f.droppedShare());
        row(f, 0, 0, 30, -1);
        is(1.0, f.droppedShare());
        f.crash();
        fails(NONE, () -> f.droppedShare());
        ViewFoundry none = new ViewFoundry();
        row(none, 2, 0, 0, 0);
        is(0.0, none.droppedShare());
    }

    private static void soundness() {
        about = "promise 31: Tells whether the results that are told are just those that are found from all rows at once.";
        is(true, new ViewFoundry().isSound());
        ViewFoundry f = new ViewFoundry();
        for (char kind : "tlsjv".toCharArray()) {
            f.addView(kind, 'm', 'a', 3, 2, 4);
        }
        is(true, f.isSound());
        int[] times = {10, 3, 14, 12, 6, 20, 13, 17, 999, 0, 990, 998};
        for (int i = 0; i < times.length; i++) {
            row(f, i % 3, 1 + i % 2, times[i], i - 5);
            is(true, f.isSound());
            mark(f, Math.min(times[i] + 2, 30 + i));
            is(true, f.isSound());
        }
        f.crash();
        is(true, f.isSound());
    }

    private static void severalExceptions() {
        about = "If several exceptions apply, the one that is listed first is thrown.";
        ViewFoundry f = inState(2);
        fails(ARGUMENT, () -> f.putRow(0, 8, 0, 0));
        fails(ARGUMENT, () -> f.putRow(0, 0, 0, 100));
        fails(ARGUMENT, () -> f.putMark(0, 1000));
        fails(ARGUMENT, () -> f.setSlack(0, 100));
        fails(ARGUMENT, () -> f.setSlack(3, 0));
        fails(ARGUMENT, () -> f.addView('t', 'c', 'a', 1, 1, 201));
        fails(ARGUMENT, () -> f.addView('l', 'c', 'a', 1, 2, 0));
        f.read(0, 1);
        f.cut();
        fails(ARGUMENT, () -> f.addView('t', 'c', 'q', 1, 1, 0));
        fails(BOUNDS, () -> f.valueOf(5, 8, 0, 0));
        fails(BOUNDS, () -> f.valueByAll(5, 8, 0, 0));
        fails(BOUNDS, () -> f.firstFrom(5, 8));
        fails(BOUNDS, () -> f.meanOf(5, 8));
        fails(BOUNDS, () -> f.rest(5, 8, 0));
        fails(NONE, () -> f.rest(4, 8, 0));
        fails(BOUNDS, () -> f.outputAt(0, 6));
        fails(BOUNDS, () -> f.waitingAt(0, 6));
    }

    // Refused calls leave no trace.

    private static void refusedWithoutATrace() {
        about = "A method that throws an exception changes nothing.";
        for (int state = 0; state < 4; state++) {
            List<Refused> all = refusedAlways();
            all.addAll(refusedIn(state));
            String due = picture(inState(state), state);
            for (Refused one : all) {
                ViewFoundry f = inState(state);
                fails(one.want, () -> one.use.on(f));
                is(due, picture(f, state));
            }
        }
    }

    /** A new object, one in the midst of all with an open cut, one with full logs and views, one behind a crash. */
    private static ViewFoundry inState(int state) {
        ViewFoundry f = new ViewFoundry();
        if (state == 2) {
            for (int i = 0; i < 5; i++) {
                f.addView("tlsjv".charAt(i), 's', 'a', 3, 2, 1);
            }
            for (int i = 0; i < 80; i++) {
                f.putRow(0, 1, i, 1);
                f.putRow(1, 1, i, 2);
                f.putMark(2, i);
            }
        }
        if (state == 1 || state == 3) {
            f.setSlack(0, 2);
            f.addView('t', 's', 'a', 3, 1, 1);
            f.addView('s', 'x', 'e', 1, 1, 1);
            f.addView('v', 'c', 'a', 1, 1, 9);
            mark(f, 10);
            row(f, 2, 1, 8, 5);
            row(f, 0, 1, 9, 4);
            row(f, 0, 1, 8, 2);
            f.cut();
            f.complete();
            row(f, 1, 1, 3, 4);
            row(f, 1, 1, 11, 4);
            f.moveKey(1, 2);
            mark(f, 13);
            f.putRow(0, 1, 12, 6);
            f.cut();
            f.read(0, 1);
            if (state == 3) {
                f.crash();
            }
        }
        return f;
    }

    private static List<Refused> refusedAlways() {
        List<Refused> all = new ArrayList<>();
        for (int wrong : new int[] {-1, 3}) {
            all.add(new Refused(ARGUMENT, f -> f.putRow(wrong, 1, 5, 5)));
            all.add(new Refused(ARGUMENT, f -> f.putMark(wrong, 5)));
            all.add(new Refused(ARGUMENT, f -> f.setSlack(wrong, 5)));
            all.add(new Refused(ARGUMENT, f -> f.entries(wrong)));
            all.add(new Refused(ARGUMENT, f -> f.read(wrong, 1)));
            all.add(new Refused(ARGUMENT, f -> f.place(wrong)));
            all.add(new Refused(ARGUMENT, f -> f.markOf(wrong)));
            all.add(new Refused(ARGUMENT, f -> f.moveKey(1, wrong)));
            all.add(new Refused(ARGUMENT, f -> f.load(wrong)));
        }
        for (int wrong : new int[] {-1, 8}) {
            all.add(new Refused(ARGUMENT, f -> f.putRow(0, wrong, 5, 5)));
            all.add(new Refused(ARGUMENT, f -> f.moveKey(wrong, 0)));
            all.add(new Refused(ARGUMENT, f -> f.workerOf(wrong)));
        }
        for (int wrong : new int[] {-1, 1000}) {
            all.add(new Refused(ARGUMENT, f -> f.putRow(0, 1, wrong, 5)));
            all.add(new Refused(ARGUMENT, f -> f.putRow(0, 1, 5, wrong * 100)));
            all.add(new Refused(ARGUMENT, f -> f.putMark(0, wrong)));
            all.add(new Refused(ARGUMENT, f -> f.setSlack(0, wrong)));
            all.add(new Refused(ARGUMENT, f -> f.read(0, wrong)));
            all.add(new Refused(ARGUMENT, f -> f.addView('t', 'c', 'a', wrong, 1, 0)));
            all.add(new Refused(ARGUMENT, f -> f.addView('l', 'c', 'a', 9, wrong, 0)));
            all.add(new Refused(ARGUMENT, f -> f.addView('t', 'c', 'a', 9, 1, wrong)));
            all.add(new Refused(BOUNDS, f -> f.told(wrong)));
            all.add(new Refused(BOUNDS, f -> f.valueOf(wrong, 1, 9, 12)));
            all.add(new Refused(BOUNDS, f -> f.valueByAll(wrong, 1, 9, 12)));
            all.add(new Refused(BOUNDS, f -> f.firstFrom(wrong, 1)));
            all.add(new Refused(BOUNDS, f -> f.dropped(wrong)));
            all.add(new Refused(BOUNDS, f -> f.held(wrong)));
            all.add(new Refused(BOUNDS, f -> f.outputAt(wrong, 0)));
            all.add(new Refused(BOUNDS, f -> f.waitingAt(wrong, 0)));
            all.add(new Refused(BOUNDS, f -> f.promisedSum(wrong)));
            all.add(new Refused(BOUNDS, f -> f.meanOf(wrong, 1)));
            all.add(new Refused(BOUNDS, f -> f.rest(wrong, 1, 5)));
        }
        all.add(new Refused(ARGUMENT, f -> f.addView('T', 'c', 'a', 1, 1, 0)));
        all.add(new Refused(ARGUMENT, f -> f.addView('t', 'C', 'a', 1, 1, 0)));
        all.add(new Refused(ARGUMENT, f -> f.addView('t', 'c', 'A', 1, 1, 0)));
        return all;
    }

    private static List<Refused> refusedIn(int state) {
        List<Refused> all = new ArrayList<>();
        if (state == 1) {
            all.add(new Refused(STATE, f -> f.cut()));
        } else {
            all.add(new Refused(STATE, f -> f.complete()));
        }
        if (state == 0 || state == 2) {
            all.add(new Refused(NONE, f -> f.droppedShare()));
            all.add(new Refused(BOUNDS, f -> f.outputAt(0, 0)));
            all.add(new Refused(BOUNDS, f -> f.waitingAt(0, 0)));
        } else {
            all.add(new Refused(ARGUMENT, f -> f.outputAt(0, 6)));
            all.add(new Refused(BOUNDS, f -> f.outputAt(f.promised(), 0)));
            all.add(new Refused(BOUNDS, f -> f.waitingAt(f.waiting(), 0)));
            all.add(new Refused(ARGUMENT, f -> f.rest(2, 1, 0)));
        }
        if (state == 1) {
            all.add(new Refused(ARGUMENT, f -> f.waitingAt(0, -1)));
        }
        if (state == 2) {
            for (int part = 0; part < 3; part++) {
                int own = part;
                all.add(new Refused(STATE, f -> f.putRow(own, 1, 5, 5)));
                all.add(new Refused(STATE, f -> f.putMark(own, 5)));
            }
        }
        if (state > 0) {
            all.add(new Refused(STATE, f -> f.setSlack(0, 50)));
            all.add(new Refused(STATE, f -> f.addView('t', 'c', 'a', 1, 1, 0)));
            all.add(new Refused(NONE, f -> f.valueOf(0, 1, 500, 503)));
            all.add(new Refused(NONE, f -> f.valueByAll(0, 1, 500, 503)));
            all.add(new Refused(NONE, f -> f.firstFrom(0, 7)));
            all.add(new Refused(NONE, f -> f.meanOf(0, 7)));
            all.add(new Refused(NONE, f -> f.rest(0, 7, 4)));
        }
        return all;
    }

    /** What can be asked of an object, now and as it goes on from here. */
    private static String picture(ViewFoundry f, int state) {
        StringBuilder text = new StringBuilder();
        describe(f, text);
        // A slack and a view that are not to be seen otherwise.
        tell(text, () -> f.setSlack(0, 1));
        tell(text, () -> f.addView('t', 's', 'a', 3, 1, 1));
        if (state != 2) {
            tell(text, () -> f.putRow(0, 1, 14, 7));
            tell(text, () -> f.putMark(1, 15));
        }
        for (int part = 0; part < 3; part++) {
            int own = part;
            tell(text, () -> f.read(own, 9));
        }
        tell(text, () -> f.complete());
        tell(text, () -> f.cut());
        describe(f, text);
        tell(text, () -> f.crash());
        tell(text, () -> f.promised());
        tell(text, () -> f.place(0));
        return text.toString();
    }

    private static void describe(ViewFoundry f, StringBuilder text) {
        for (int part = 0; part < 3; part++) {
            int own = part;
            tell(text, () -> f.entries(own));
            tell(text, () -> f.place(own));
            tell(text, () -> f.markOf(own));
            tell(text, () -> f.load(own));
        }
        tell(text, () -> f.mark());
        for (int view = 0; view < 5; view++) {
            int own = view;
            tell(text, () -> f.told(own));
            tell(text, () -> f.dropped(own));
            tell(text, () -> f.held(own));
            tell(text, () -> f.promisedSum(own));
            tell(text, () -> f.firstFrom(own, 1));
            tell(text, () -> f.meanOf(own, 1));
        }
        for (int key = 0; key < 8; key++) {
            int own = key;
            tell(text, () -> f.workerOf(own));
        }
        tell(text, () -> f.droppedShare());
        tell(text, () -> f.isSound());
        tell(text, () -> f.waiting());
        tell(text, () -> f.promised());
        tell(text, () -> waitsFrom(f, 0));
        for (int output = 0; output < 3; output++) {
            int own = output;
            tell(text, () -> isPromised(f, own));
        }
    }

    private static void tell(StringBuilder text, Call call) {
        try {
            text.append(call.answer()).append(' ');
        } catch (RuntimeException e) {
            text.append(e.getClass().getSimpleName()).append(' ');
        }
    }
}
