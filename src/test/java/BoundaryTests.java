/** A test for each sentence of the document's terms that names a boundary; what it says stands ahead of its checks. */
public final class BoundaryTests extends Checks {
    /** Sizes and graces, the least and the greatest of both among them. */
    private static final int[][] SIZES = {{1, 0}, {1, 200}, {3, 2}, {5, 0}, {200, 0}, {200, 200}};

    public static void main(String[] args) {
        theLogs();
        theMarks();
        theViews();
        theMeasures();
        theWindows();
        tellingAnew();
        theSessions();
        theJoins();
        theVersions();
        theCuts();
        theWorkers();
        end();
    }

    private static void theLogs() {
        fiveHundredAndTwelveCalls();
        leftAndRightParts();
        eightyEntries();
        whatARowHas();
        placesUpToTheEnd();
    }

    private static void fiveHundredAndTwelveCalls() {
        about = "An object is used for at most 512 calls after it has been made";
        ViewFoundry f = with('t', 's', 'a', 10, 1, 200);
        mark(f, 10);
        for (int i = 0; i < 79; i++) {
            f.putRow(0, 1, 5, i % 2 == 0 ? 2 : -1);
        }
        is(20, f.read(0, 20));
        // These were 1, 6, 79 and 1 calls; the last three are made below.
        for (int calls = 87; calls < 509; calls++) {
            is(10, f.valueByAll(0, 1, 0, 10));
        }
        is(20, f.read(0, 20));
        is(20, f.valueOf(0, 1, 0, 10));
        is(true, f.isSound());
    }

    private static void leftAndRightParts() {
        about = "the parts 0 and 1 are left ones, the part 2 is a right one";
        for (int part = 0; part < 3; part++) {
            ViewFoundry f = with('j', 'c', 'a', 1, 1, 0);
            row(f, part, 1, 5, 3);
            for (int other = 0; other < 3; other++) {
                int before = f.told(0);
                row(f, other, 1, 5, 4);
                // What the right part brings meets what the left ones brought, and what they bring meets it.
                int partners = part == 2 ? new int[] {1, 1, 2}[other] : new int[] {0, 0, 3}[other];
                is(before + partners, f.told(0));
            }
        }
    }

    private static void eightyEntries() {
        about = "A log has at most 80 entries, numbered from 0: rows and marks.";
        for (int part = 0; part < 3; part++) {
            ViewFoundry f = new ViewFoundry();
            int own = part;
            for (int i = 0; i < 80; i++) {
                is(i, i % 3 == part ? f.putMark(part, i) : f.putRow(part, i % 8, i, i));
                is(i + 1, f.entries(part));
            }
            fails(STATE, () -> f.putRow(own, 0, 0, 0));
            fails(STATE, () -> f.putMark(own, 0));
            is(80, f.entries(part));
            // What was read stays in its log, and a crash takes nothing out of it.
            is(20, f.read(part, 20));
            f.crash();
            fails(STATE, () -> f.putRow(own, 0, 0, 0));
            fails(STATE, () -> f.putMark(own, 0));
            is(0, f.putRow((part + 1) % 3, 0, 0, 0));
            is(0, f.putMark((part + 2) % 3, 0));
        }
    }

    private static void whatARowHas() {
        about = "A row has a key from 0 to 7, a time from 0 to 999, and a value from -99 to 99";
        int[][] corners = {{0, 0, -99}, {0, 999, 99}, {7, 0, 99}, {7, 999, -99}};
        for (int[] corner : corners) {
            ViewFoundry f = with('j', 'c', 'a', 1, 1, 0);
            row(f, 1, corner[0], corner[1], corner[2]);
            row(f, 2, corner[0], corner[1], corner[2]);
            is("0 " + corner[0] + " " + corner[1] + " " + corner[1] + " " + 2 * corner[2] + " 1", waitsFrom(f, 0));
        }
    }

    private static void placesUpToTheEnd() {
        about = "Each part has a place in its log, up to which it was read.";
        ViewFoundry f = new ViewFoundry();
        for (int i = 0; i < 80; i++) {
            f.putRow(1, 0, 0, 0);
        }
        for (int i = 0; i < 4; i++) {
            is(20 * i, f.place(1));
            is(20, f.read(1, 20));
        }
        is(80, f.place(1));
        is(0, f.read(1, 20));
        is(80, f.place(1));
        is(0, f.place(0));
        is(0, f.place(2));
    }

    private static void theMarks() {
        marksAtFirst();
        marksByRows();
        marksByMarks();
        markOfAll();
        theMarkAsItWasAhead();
        theMarkMayRise();
    }

    private static void marksAtFirst() {
        about = "The mark of a part is -1 at first.";
        ViewFoundry f = new ViewFoundry();
        for (int part = 0; part < 3; part++) {
            is(-1, f.markOf(part));
        }
        is(-1, f.mark());
        mark(f, 0);
        is(0, f.mark());
        f.crash();
        is(-1, f.mark());
        is(-1, f.markOf(2));
    }

    private static void marksByRows() {
        about = "it becomes the time of the row less the slack of the part, if this is greater than it";
        int[][] slacks = {{0, 0}, {1, 1}, {2, 50}, {0, 99}};
        for (int[] slack : slacks) {
            ViewFoundry f = new ViewFoundry();
            int part = slack[0];
            f.setSlack(part, slack[1]);
            // The time less the slack is -1 at most: not greater than -1.
            if (slack[1] > 0) {
                row(f, part, 0, slack[1] - 1, 0);
                row(f, part, 0, 0, 0);
                is(-1, f.markOf(part));
            }
            row(f, part, 0, slack[1], 0);
            is(0, f.markOf(part));
            row(f, part, 0, slack[1] + 7, 0);
            is(7, f.markOf(part));
            row(f, part, 0, slack[1] + 7, 0);
            row(f, part, 0, slack[1] + 6, 0);
            is(7, f.markOf(part));
            row(f, part, 0, slack[1] + 8, 0);
            is(8, f.markOf(part));
            row(f, part, 0, 999, 0);
            is(999 - slack[1], f.markOf(part));
            is(-1, f.markOf((part + 1) % 3));
            is(-1, f.markOf((part + 2) % 3));
        }
    }

    private static void marksByMarks() {
        about = "when a mark is read, the time of this, if it is greater";
        for (int part = 0; part < 3; part++) {
            ViewFoundry f = new ViewFoundry();
            f.setSlack(part, 99);
            int[][] marks = {{0, 0}, {0, 0}, {1, 1}, {0, 1}, {998, 998}, {997, 998}, {999, 999}, {999, 999}, {0, 999}};
            for (int[] one : marks) {
                markIn(f, part, one[0]);
                is(one[1], f.markOf(part));
            }
        }
    }

    private static void markOfAll() {
        about = "The mark of all is the least one of the marks of the parts";
        int[][] orders = {{0, 1, 2}, {0, 2, 1}, {1, 0, 2}, {1, 2, 0}, {2, 0, 1}, {2, 1, 0}};
        for (int[] order : orders) {
            ViewFoundry f = new ViewFoundry();
            markIn(f, order[0], 7);
            is(-1, f.mark());
            markIn(f, order[1], 5);
            is(-1, f.mark());
            markIn(f, order[2], 6);
            is(5, f.mark());
            markIn(f, order[1], 6);
            is(6, f.mark());
            markIn(f, order[2], 8);
            is(6, f.mark());
            markIn(f, order[1], 9);
            is(7, f.mark());
            mark(f, 999);
            is(999, f.mark());
        }
    }

    private static void theMarkAsItWasAhead() {
        about = "each view that lets it in takes it, by rising views, with the mark as it was ahead";
        // The row raises the mark to where it would be late itself, as its window has but one time and no grace.
        ViewFoundry f = with('t', 's', 'a', 1, 1, 0);
        f.addView('t', 's', 'a', 1, 1, 9);
        free(f);
        row(f, 0, 1, 0, 4);
        row(f, 0, 1, 999, 4);
        is(0, f.dropped(0));
        is("0 1 0 1 4 1, 1 1 0 1 4 1", waitsFrom(f, 0));
        // Two views take a late row: the first one of them makes its outputs first.
        ViewFoundry two = with('s', 's', 'a', 1, 1, 9);
        two.addView('t', 's', 'a', 1, 1, 9);
        mark(two, 7);
        row(two, 0, 1, 3, 4);
        is("0 1 3 3 4 1, 1 1 3 4 4 1", waitsFrom(two, 0));
    }

    private static void theMarkMayRise() {
        about = "if it does, each view tells what is due and then lets go what it need not keep, by rising views";
        ViewFoundry f = with('s', 's', 'a', 1, 1, 0);
        f.addView('t', 's', 'a', 1, 1, 0);
        f.addView('v', 's', 'a', 1, 1, 0);
        row(f, 0, 1, 3, 4);
        row(f, 1, 0, 4, 5);
        // The marks of the parts rise, and that of all does not.
        markIn(f, 0, 999);
        markIn(f, 1, 999);
        is(0, f.waiting());
        is(2, f.held(0));
        // It goes beyond all graces at once: what is due is told ahead of being let go.
        markIn(f, 2, 999);
        is("0 1 3 3 4 1, 0 0 4 4 5 1, 1 1 3 4 4 1, 1 0 4 5 5 1, 2 1 3 -1 4 1, 2 0 4 -1 5 1", waitsFrom(f, 0));
        for (int view = 0; view < 3; view++) {
            is(0, f.held(view));
            is(2, f.told(view));
        }
        is(true, f.isSound());
    }

    private static void theViews() {
        fiveViews();
        filters();
        leftRowsAlone();
        noMeaningOfMeasures();
        tellingIsAnOutput();
    }

    private static void fiveViews() {
        about = "At most 5 views are numbered from 0.";
        ViewFoundry f = new ViewFoundry();
        fails(BOUNDS, () -> f.told(0));
        for (int i = 0; i < 5; i++) {
            int next = i + 1;
            is(i, f.addView("tlsjv".charAt(i), 'c', 'a', 1, 1, 0));
            is(0, f.told(i));
            fails(BOUNDS, () -> f.told(next));
        }
        fails(STATE, () -> f.addView('t', 'c', 'a', 1, 1, 0));
        fails(BOUNDS, () -> f.told(5));
    }

    private static void filters() {
        about = "'a' all, 'e' those with even values, 'p' those with values greater than 0";
        int[] values = {-99, -98, -2, -1, 0, 1, 2, 98, 99};
        for (char kind : "tlsjv".toCharArray()) {
            for (int value : values) {
                is(1, heldOfOne(kind, 'a', value));
                is(value % 2 == 0 ? 1 : 0, heldOfOne(kind, 'e', value));
                is(value > 0 ? 1 : 0, heldOfOne(kind, 'p', value));
            }
        }
        // A row that is not let in is not dropped either.
        ViewFoundry late = with('t', 'c', 'p', 1, 1, 0);
        mark(late, 9);
        row(late, 0, 1, 0, 0);
        is(0, late.dropped(0));
        row(late, 0, 1, 0, 1);
        is(1, late.dropped(0));
    }

    private static int heldOfOne(char kind, char filter, int value) {
        ViewFoundry f = with(kind, 'c', filter, 1, 1, 0);
        row(f, 0, 1, 5, value);
        return f.held(0);
    }

    private static void leftRowsAlone() {
        about = "windows and sessions let in left rows alone";
        for (char kind : "tlsjv".toCharArray()) {
            for (int part = 0; part < 3; part++) {
                ViewFoundry f = with(kind, 'c', 'a', 1, 1, 0);
                boolean right = kind == 'j' || kind == 'v';
                row(f, part, 1, 5, 1);
                is(part < 2 || right ? 1 : 0, f.held(0));
                mark(f, 9);
                row(f, part, 1, 5, 1);
                is(part < 2 || right ? 1 : 0, f.dropped(0));
            }
        }
    }

    private static void noMeaningOfMeasures() {
        about = "for joins and versions, it has no meaning";
        for (char measure : "csxbm".toCharArray()) {
            ViewFoundry f = with('j', measure, 'a', 1, 1, 0);
            f.addView('v', measure, 'a', 1, 1, 0);
            row(f, 2, 1, 5, 99);
            row(f, 0, 1, 5, 99);
            mark(f, 6);
            is("0 1 5 5 198 1, 1 1 5 5 198 1", waitsFrom(f, 0));
        }
    }

    private static void tellingIsAnOutput() {
        about = "To tell one, and to take one back that is told, are outputs.";
        ViewFoundry f = with('t', 'c', 'a', 1, 1, 9);
        is(0, f.waiting());
        row(f, 0, 1, 0, 1);
        is(0, f.waiting());
        mark(f, 1);
        is(1, f.waiting());
        row(f, 0, 1, 0, 1);
        is("0 1 0 1 1 1, 0 1 0 1 1 -1, 0 1 0 1 2 1", waitsFrom(f, 0));
        // Letting go is none.
        mark(f, 999);
        is(3, f.waiting());
        is(1, f.told(0));
    }

    private static void theMeasures() {
        about = "the sum cast to byte 'b'";
        int[][] bytes = {{127, 127}, {128, -128}, {255, -1}, {256, 0}, {383, 127}, {384, -128}, {-128, -128},
            {-129, 127}, {-256, 0}, {-257, -1}, {0, 0}};
        for (int[] one : bytes) {
            is(one[1], measured('b', rowsWithSum(one[0])));
        }
        about = "the greatest value 'x'";
        is(-99, measured('x', -99));
        is(-98, measured('x', -99, -98, -99));
        is(0, measured('x', -1, 0));
        is(99, measured('x', 99, -99));
        about = "their number 'c'";
        is(1, measured('c', 0));
        is(3, measured('c', 0, 0, 0));
        about = "the sum of their values 's'";
        is(-198, measured('s', -99, -99));
        is(0, measured('s', 99, -99));
        about = "the bits, as Float.floatToIntBits tells them, of their mean 'm'";
        is(Float.floatToIntBits(0f), measured('m', 0));
        is(Float.floatToIntBits(0f), measured('m', -1, 1));
        is(Float.floatToIntBits(99f), measured('m', 99));
        is(Float.floatToIntBits(-99f), measured('m', -99, -99));
        is(Float.floatToIntBits(1f / 3f), measured('m', 1, 0, 0));
        is(Float.floatToIntBits(-1f / 3f), measured('m', -1, 0, 0));
        is(Float.floatToIntBits(-0.5f), measured('m', -1, 0));
        is(Float.floatToIntBits(197f / 2f), measured('m', 98, 99));
        manyRows();
    }

    /** As many rows as the logs of the left parts can have beside a mark each: 158. */
    private static void manyRows() {
        int[][] sums = {{1, 1}, {-1, -1}, {99 * 158, 99}, {-99 * 158, -99}};
        for (int[] sum : sums) {
            for (char measure : "csxbm".toCharArray()) {
                ViewFoundry f = with('t', measure, 'a', 200, 1, 0);
                boolean all = sum[0] != sum[1];
                for (int i = 0; i < 158; i++) {
                    f.putRow(i % 2, 0, 199, all || i == 0 ? sum[1] : 0);
                }
                for (int i = 0; i < 8; i++) {
                    f.read(i % 2, 20);
                }
                mark(f, 200);
                int greatest = all ? sum[1] : Math.max(sum[1], 0);
                int bits = Float.floatToIntBits((float) sum[0] / 158f);
                int due = measure == 'c' ? 158 : measure == 's' ? sum[0] : measure == 'x' ? greatest
                        : measure == 'b' ? (byte) sum[0] : bits;
                is(due, f.valueOf(0, 0, 0, 200));
                is(due, f.valueByAll(0, 0, 0, 200));
            }
        }
    }

    private static int[] rowsWithSum(int sum) {
        int[] values = new int[6];
        int left = sum;
        for (int i = 0; i < values.length; i++) {
            values[i] = Math.max(-99, Math.min(99, left));
            left -= values[i];
        }
        return values;
    }

    /** The measure of rows, the same by a window and a session, told and found. */
    private static int measured(char measure, int... values) {
        ViewFoundry f = with('t', measure, 'a', 10, 1, 0);
        f.addView('s', measure, 'a', 10, 1, 0);
        for (int value : values) {
            row(f, 0, 3, 12, value);
        }
        mark(f, 40);
        int got = f.valueOf(0, 3, 10, 20);
        is(got, f.valueByAll(0, 3, 10, 20));
        is(got, f.valueOf(1, 3, 12, 12));
        is(got, f.valueByAll(1, 3, 12, 12));
        return got;
    }

    private static void theWindows() {
        timesOfWindows();
        tooLateForAWindow();
        tooLateForSomeWindows();
        lateInAWindow();
        dueWindows();
        orderOfWindows();
        windowsLetGo();
    }

    private static void timesOfWindows() {
        about = "A window begins at a time that can be divided by the step, from 0 on, and has the times less than its end";
        int[][] windows = {{'t', 1, 1}, {'t', 200, 7}, {'t', 10, 3}, {'t', 10, 0}, {'l', 1, 1}, {'l', 5, 2}, {'l', 4, 4},
            {'l', 200, 1}, {'l', 200, 199}, {'l', 200, 200}, {'l', 7, 3}};
        for (int[] window : windows) {
            int size = window[1];
            int step = window[0] == 't' ? size : window[2];
            for (int time : new int[] {0, 1, size - 1, size, size + 1, step - 1, step, 500, 998, 999}) {
                ViewFoundry f = with((char) window[0], 'c', 'a', size, window[2], 0);
                row(f, 0, 3, time, 1);
                is(windowsWith(time, size, step, 1999), f.held(0));
                mark(f, 999);
                is(windowsWith(time, size, step, 999), f.told(0));
                for (int begin = 0; begin + size <= 999; begin += step) {
                    int from = begin;
                    if (begin <= time && time < begin + size) {
                        is(1, f.valueOf(0, 3, begin, begin + size));
                    } else if (Math.abs(begin - time) <= 2 * size && size < 50) {
                        fails(NONE, () -> f.valueOf(0, 3, from, from + size));
                    }
                }
            }
        }
    }

    /** How many windows that end by then have a time. */
    private static int windowsWith(int time, int size, int step, int then) {
        int many = 0;
        for (int begin = 0; begin <= time; begin += step) {
            many += time < begin + size && begin + size <= then ? 1 : 0;
        }
        return many;
    }

    private static void tooLateForAWindow() {
        about = "if the mark is not less than the end plus the grace, the row is dropped by the window";
        for (int[] one : SIZES) {
            int size = one[0];
            int limit = 2 * size + one[1];
            for (int at = limit - 1; at <= limit + 1; at++) {
                for (int time : new int[] {size, 2 * size - 1}) {
                    ViewFoundry f = with('t', 's', 'a', size, 1, one[1]);
                    mark(f, at);
                    row(f, 1, 2, time, 4);
                    boolean late = at >= limit;
                    is(late ? 1 : 0, f.dropped(0));
                    is(late ? 0 : 1, f.held(0));
                    is(!late && at >= 2 * size ? 1 : 0, f.told(0));
                    is(true, f.isSound());
                }
            }
        }
    }

    private static void tooLateForSomeWindows() {
        about = "A row is taken by each window that has its time: each drops it by itself";
        // The time 2 lies in the windows from 0 to 4 and from 2 to 6, and the grace is 1.
        int[][] dues = {{4, 0, 2, 1}, {5, 1, 1, 0}, {6, 1, 1, 1}, {7, 2, 0, 0}};
        for (int[] due : dues) {
            ViewFoundry f = with('l', 's', 'a', 4, 2, 1);
            mark(f, due[0]);
            row(f, 0, 0, 2, 9);
            is(due[1], f.dropped(0));
            is(due[2], f.held(0));
            is(due[3], f.told(0));
            is(true, f.isSound());
        }
        about = "A row is taken by each window that has its time, by rising beginnings";
        ViewFoundry f = with('l', 's', 'a', 4, 1, 9);
        mark(f, 10);
        row(f, 0, 6, 5, 9);
        is("0 6 2 6 9 1, 0 6 3 7 9 1, 0 6 4 8 9 1, 0 6 5 9 9 1", waitsFrom(f, 0));
    }

    private static void lateInAWindow() {
        about = "and if the mark is not less than the end, the window is told anew";
        ViewFoundry f = with('t', 's', 'a', 10, 1, 5);
        mark(f, 9);
        row(f, 0, 1, 3, 2);
        is(0, f.waiting());
        mark(f, 10);
        is("0 1 0 10 2 1", waitsFrom(f, 0));
        row(f, 0, 1, 9, 5);
        is("0 1 0 10 2 -1, 0 1 0 10 7 1", waitsFrom(f, 1));
        row(f, 0, 2, 0, 5);
        is("0 2 0 10 5 1", waitsFrom(f, 3));
    }

    private static void dueWindows() {
        about = "It is due when the mark is not less than its end";
        for (int[] one : SIZES) {
            ViewFoundry f = with('t', 's', 'a', one[0], 1, one[1]);
            row(f, 0, 1, 2 * one[0], 2);
            mark(f, 3 * one[0] - 1);
            is(0, f.told(0));
            fails(NONE, () -> f.valueByAll(0, 1, 2 * one[0], 3 * one[0]));
            mark(f, 3 * one[0]);
            is("0 1 " + 2 * one[0] + " " + 3 * one[0] + " 2 1", waitsFrom(f, 0));
            is(2, f.valueByAll(0, 1, 2 * one[0], 3 * one[0]));
        }
        // The greatest mark is 999: a window up to it is told, one beyond it never.
        ViewFoundry last = with('l', 's', 'a', 2, 1, 0);
        row(last, 0, 1, 998, 2);
        mark(last, 999);
        is("0 1 997 999 2 1", waitsFrom(last, 0));
        is(1, last.held(0));
    }

    private static void orderOfWindows() {
        about = "due ones are told by rising ends, then by rising keys";
        ViewFoundry f = with('l', 's', 'a', 4, 2, 0);
        row(f, 0, 7, 1, 1);
        row(f, 0, 0, 5, 2);
        row(f, 1, 3, 1, 3);
        row(f, 1, 7, 2, 4);
        mark(f, 8);
        is("0 3 0 4 3 1, 0 7 0 4 5 1, 0 0 2 6 2 1, 0 7 2 6 4 1, 0 0 4 8 2 1", waitsFrom(f, 0));
    }

    private static void windowsLetGo() {
        about = "It is let go when the mark is not less than its end plus the grace.";
        for (int[] one : SIZES) {
            ViewFoundry f = with('t', 's', 'a', one[0], 1, one[1]);
            row(f, 0, 1, one[0] - 1, 2);
            row(f, 0, 1, one[0], 2);
            is(2, f.held(0));
            mark(f, one[0] + one[1] - 1);
            is(2, f.held(0));
            mark(f, one[0] + one[1]);
            is(1, f.held(0));
            is(true, f.told(0) >= 1);
            mark(f, 2 * one[0] + one[1]);
            is(0, f.held(0));
            is(2, f.told(0));
        }
    }

    private static void tellingAnew() {
        about = "If nothing was told for it, the result is told.";
        ViewFoundry f = with('t', 's', 'a', 10, 1, 50);
        mark(f, 30);
        row(f, 0, 1, 3, 0);
        is("0 1 0 10 0 1", waitsFrom(f, 0));
        about = "If one was told with another value, this is taken back, and then the new one is told";
        row(f, 0, 1, 3, 1);
        is("0 1 0 10 0 -1, 0 1 0 10 1 1", waitsFrom(f, 1));
        about = "otherwise, nothing is done";
        row(f, 0, 1, 3, 0);
        is(3, f.waiting());
        is(1, f.told(0));
        // The same greatest value, and the same mean.
        ViewFoundry same = with('t', 'x', 'a', 10, 1, 50);
        same.addView('t', 'm', 'a', 10, 1, 50);
        mark(same, 30);
        row(same, 0, 1, 3, 4);
        row(same, 0, 1, 3, 4);
        is(2, same.waiting());
        row(same, 0, 1, 3, 2);
        is(4, same.waiting());
        row(same, 0, 1, 3, 5);
        is(8, same.waiting());

        ViewFoundry s = with('s', 'x', 'a', 5, 1, 100);
        mark(s, 30);
        row(s, 0, 1, 10, 4);
        about = "If one was told with another from, this is taken back, and then the new one is told";
        row(s, 0, 1, 8, 1);
        is("0 1 10 10 4 1, 0 1 10 10 4 -1, 0 1 8 10 4 1", waitsFrom(s, 0));
        about = "If one was told with another to, this is taken back, and then the new one is told";
        row(s, 0, 1, 12, 1);
        is("0 1 8 10 4 -1, 0 1 8 12 4 1", waitsFrom(s, 3));
        about = "otherwise, nothing is done";
        row(s, 0, 1, 8, 4);
        row(s, 0, 1, 12, 3);
        row(s, 0, 1, 9, 3);
        is(5, s.waiting());
        is(1, s.told(0));
    }

    private static void theSessions() {
        tooLateForASession();
        reachedSessions();
        twoReachedSessions();
        dueSessions();
        joinedWithJustOne();
        joinedWithTwo();
        orderOfSessions();
        sessionsLetGo();
    }

    private static void tooLateForASession() {
        about = "A row is dropped if the mark is not less than its time plus the size plus 1 plus the grace.";
        for (char kind : "sj".toCharArray()) {
            for (int[] one : SIZES) {
                for (int time : new int[] {0, 10, 500}) {
                    int limit = time + one[0] + 1 + one[1];
                    for (int at = limit - 1; at <= limit + 1; at++) {
                        ViewFoundry f = with(kind, 's', 'a', one[0], 1, one[1]);
                        mark(f, at);
                        row(f, 0, 2, time, 4);
                        boolean late = at >= limit;
                        is(late ? 1 : 0, f.dropped(0));
                        is(late ? 0 : 1, f.held(0));
                        is(kind == 's' && !late && at > time + one[0] ? 1 : 0, f.told(0));
                        is(true, f.isSound());
                    }
                }
            }
        }
    }

    private static void reachedSessions() {
        about = "joined with those sessions whose first time less the size is not greater, and whose last time plus the "
                + "size is not less, than its time";
        for (int[] one : SIZES) {
            int size = one[0];
            int[] times = {500 - size, 500 - size - 1, 502 + size, 502 + size + 1, 500, 501, 502};
            for (int i = 0; i < times.length; i++) {
                ViewFoundry f = with('s', 'c', 'a', size, 1, one[1]);
                row(f, 0, 2, 501, 1);
                row(f, 0, 2, 500, 1);
                row(f, 1, 2, 502, 1);
                is(1, f.held(0));
                row(f, 1, 2, times[i], 1);
                boolean apart = i == 1 || i == 3;
                is(apart ? 2 : 1, f.held(0));
                mark(f, 999);
                int from = apart ? 500 : Math.min(times[i], 500);
                int to = apart ? 502 : Math.max(times[i], 502);
                is(apart ? 3 : 4, f.valueOf(0, 2, from, to));
                is(apart ? 3 : 4, f.valueByAll(0, 2, from, to));
                is(apart ? 2 : 1, f.told(0));
                is(true, f.isSound());
            }
        }
        // The first and the last time there are, and another key.
        ViewFoundry f = with('s', 'c', 'a', 200, 1, 0);
        row(f, 0, 2, 0, 1);
        row(f, 0, 2, 200, 1);
        row(f, 0, 2, 999, 1);
        row(f, 0, 2, 799, 1);
        row(f, 0, 3, 0, 1);
        row(f, 0, 1, 999, 1);
        is(4, f.held(0));
        mark(f, 999);
        is("0 3 0 0 1 1, 0 2 0 200 2 1", waitsFrom(f, 0));
        is(true, f.isSound());
    }

    private static void twoReachedSessions() {
        about = "to one session, with the rows of all";
        for (int[] one : SIZES) {
            int size = one[0];
            for (int more = 0; more < 2; more++) {
                ViewFoundry f = with('s', 'c', 'a', size, 1, one[1]);
                row(f, 0, 2, 100 + 2 * size + more, 1);
                row(f, 0, 2, 100, 1);
                is(2, f.held(0));
                // In the midst of both, or one nearer to the first than it should be.
                row(f, 0, 2, 100 + size, 1);
                is(1 + more, f.held(0));
                mark(f, 999);
                is(3 - more, f.valueOf(0, 2, 100, 100 + size * (2 - more)));
                is(1 + more, f.told(0));
                is(true, f.isSound());
            }
        }
    }

    private static void dueSessions() {
        about = "A session is due when the mark is greater than its last time plus the size";
        for (int[] one : SIZES) {
            for (int key = 0; key < 8; key++) {
                int own = key;
                ViewFoundry f = with('s', 's', 'a', one[0], 1, one[1]);
                row(f, 0, key, 10, 2);
                row(f, 0, key, 11, 3);
                mark(f, 11 + one[0]);
                is(0, f.told(0));
                fails(NONE, () -> f.valueByAll(0, own, 10, 11));
                mark(f, 12 + one[0]);
                is("0 " + key + " 10 11 5 1", waitsFrom(f, 0));
                is(5, f.valueByAll(0, key, 10, 11));
            }
            // The greatest mark is 999.
            ViewFoundry last = with('s', 's', 'a', one[0], 1, one[1]);
            row(last, 0, 1, 999 - one[0], 2);
            row(last, 0, 2, 998 - one[0], 2);
            mark(last, 999);
            is("0 2 " + (998 - one[0]) + " " + (998 - one[0]) + " 2 1", waitsFrom(last, 0));
        }
    }

    private static void joinedWithJustOne() {
        about = "If just one was joined, and it was told, and the new session is due, it is told anew";
        ViewFoundry f = with('s', 's', 'a', 3, 1, 20);
        row(f, 0, 1, 10, 4);
        mark(f, 17);
        row(f, 0, 1, 13, 4);
        is("0 1 10 10 4 1, 0 1 10 10 4 -1, 0 1 10 13 8 1", waitsFrom(f, 0));
        about = "otherwise, those that were told are taken back";
        // 14 and 3 is 17, and the mark is not greater.
        row(f, 0, 1, 14, 4);
        is("0 1 10 13 8 -1", waitsFrom(f, 3));
        is(0, f.told(0));
        is(1, f.held(0));
        is(true, f.isSound());
        mark(f, 18);
        is("0 1 10 14 12 1", waitsFrom(f, 4));
        // The first time and the first key.
        ViewFoundry first = with('s', 's', 'a', 3, 1, 20);
        mark(first, 4);
        row(first, 0, 0, 0, 4);
        row(first, 0, 0, 3, 4);
        is("0 0 0 0 4 1, 0 0 0 0 4 -1", waitsFrom(first, 0));
        is(0, first.told(0));
        is(true, first.isSound());
        about = "and then the new one is told, if it is due";
        // None is joined: told at once, if it is due; and one that is not told is joined.
        ViewFoundry none = with('s', 's', 'a', 3, 1, 20);
        mark(none, 17);
        row(none, 0, 1, 14, 4);
        is(0, none.waiting());
        row(none, 0, 1, 12, 4);
        is(0, none.waiting());
        row(none, 0, 2, 13, 4);
        is("0 2 13 13 4 1", waitsFrom(none, 0));
        is(2, none.held(0));
        is(true, none.isSound());
    }

    private static void joinedWithTwo() {
        about = "those that were told are taken back, by rising first times, and then the new one is told, if it is due";
        ViewFoundry f = with('s', 's', 'a', 3, 1, 20);
        mark(f, 20);
        row(f, 0, 1, 16, 1);
        row(f, 0, 1, 10, 2);
        row(f, 0, 1, 13, 4);
        is("0 1 16 16 1 1, 0 1 10 10 2 1, 0 1 10 10 2 -1, 0 1 16 16 1 -1, 0 1 10 16 7 1", waitsFrom(f, 0));
        is(1, f.told(0));
        is(1, f.held(0));
        // The one of 17 is not due, and so neither is what it becomes.
        ViewFoundry half = with('s', 's', 'a', 3, 1, 20);
        mark(half, 20);
        row(half, 0, 1, 17, 1);
        row(half, 0, 1, 11, 2);
        row(half, 0, 1, 14, 4);
        is("0 1 11 11 2 1, 0 1 11 11 2 -1", waitsFrom(half, 0));
        is(1, half.held(0));
        mark(half, 21);
        is("0 1 11 17 7 1", waitsFrom(half, 2));
        is(true, half.isSound());
    }

    private static void orderOfSessions() {
        about = "Due ones are told by rising last times, then by rising keys.";
        ViewFoundry f = with('s', 'c', 'a', 5, 1, 0);
        row(f, 0, 1, 10, 1);
        row(f, 0, 1, 14, 1);
        row(f, 0, 1, 18, 1);
        row(f, 0, 6, 17, 1);
        row(f, 0, 7, 12, 1);
        row(f, 0, 0, 18, 1);
        mark(f, 24);
        is("0 7 12 12 1 1, 0 6 17 17 1 1, 0 0 18 18 1 1, 0 1 10 18 3 1", waitsFrom(f, 0));
    }

    private static void sessionsLetGo() {
        about = "A session is let go when the mark is greater than its last time plus 2 times the size plus the grace.";
        for (int[] one : SIZES) {
            for (int last : new int[] {0, 11, 398}) {
                int limit = last + 2 * one[0] + one[1];
                ViewFoundry f = with('s', 's', 'a', one[0], 1, one[1]);
                row(f, 0, 1, last, 2);
                row(f, 0, 1, Math.max(last - 1, 0), 2);
                mark(f, limit);
                is(1, f.held(0));
                mark(f, limit + 1);
                is(0, f.held(0));
                is(1, f.told(0));
                is(4, f.valueOf(0, 1, Math.max(last - 1, 0), last));
                is(true, f.isSound());
            }
        }
    }

    private static void theJoins() {
        partners();
        orderOfPartners();
        keptForJoins();
        fullLogsOfPartners();
    }

    private static void partners() {
        about = "for each row of the other side with its key, and whose time differs from its own by the size at most";
        for (int[] one : SIZES) {
            for (int part = 0; part < 3; part++) {
                for (int times = -1; times <= 1; times += 2) {
                    ViewFoundry f = with('j', 's', 'a', one[0], 1, one[1]);
                    int other = part == 2 ? 1 : 2;
                    row(f, part, 1, 500, 7);
                    row(f, other, 1, 500 + times * (one[0] + 1), 8);
                    row(f, other, 2, 500, 9);
                    is(0, f.waiting());
                    int far = 500 + times * one[0];
                    row(f, other, 1, far, 10);
                    String due = part == 2 ? far + " 500" : "500 " + far;
                    is("0 1 " + due + " 17 1", waitsFrom(f, 0));
                    is(17, f.valueByAll(0, 1, part == 2 ? far : 500, part == 2 ? 500 : far));
                    is(true, f.isSound());
                }
            }
        }
    }

    private static void orderOfPartners() {
        about = "in the order in which they were taken, a result is told: the time of the left row, that of the right one";
        ViewFoundry f = with('j', 's', 'a', 5, 1, 0);
        row(f, 0, 1, 12, 1);
        row(f, 1, 1, 8, 2);
        row(f, 0, 1, 10, 3);
        row(f, 1, 1, 8, 2);
        row(f, 2, 1, 10, 90);
        is("0 1 12 10 91 1, 0 1 8 10 92 1, 0 1 10 10 93 1, 0 1 8 10 92 1", waitsFrom(f, 0));
        is(4, f.told(0));
        is(184, f.valueOf(0, 1, 8, 10));
        is(184, f.valueByAll(0, 1, 8, 10));
        is(true, f.isSound());
    }

    private static void keptForJoins() {
        about = "It is kept until the mark is greater than its time plus 2 times the size plus the grace.";
        for (int[] one : SIZES) {
            int size = one[0];
            int limit = 10 + 2 * size + one[1];
            for (int part = 0; part < 3; part++) {
                int other = part == 2 ? 0 : 2;
                ViewFoundry alone = with('j', 's', 'a', size, 1, one[1]);
                row(alone, part, 1, 10, 2);
                mark(alone, limit);
                is(1, alone.held(0));
                mark(alone, limit + 1);
                is(0, alone.held(0));
                ViewFoundry f = with('j', 's', 'a', size, 1, one[1]);
                row(f, part, 1, 10, 2);
                mark(f, limit);
                is(1, f.held(0));
                // The latest row that is not dropped now reaches just the kept one.
                row(f, other, 1, 10 + size, 3);
                is(0, f.dropped(0));
                is(1, f.told(0));
                is(2, f.held(0));
                mark(f, limit + 1);
                is(1, f.held(0));
                row(f, other, 1, 10 + size, 3);
                is(1, f.dropped(0));
                is(1, f.told(0));
                is(true, f.isSound());
            }
        }
    }

    private static void fullLogsOfPartners() {
        about = "A log has at most 80 entries: 160 left rows, each with 80 right ones";
        ViewFoundry f = with('j', 's', 'a', 1, 1, 0);
        f.addView('j', 's', 'a', 1, 1, 0);
        for (int i = 0; i < 80; i++) {
            for (int part = 0; part < 3; part++) {
                f.putRow(part, 7, 999, 99);
            }
        }
        for (int i = 0; i < 12; i++) {
            is(20, f.read(i % 3, 20));
        }
        is(160 * 80, f.told(1));
        is(2 * 160 * 80, f.waiting());
        is(160 * 80 * 198, f.valueOf(1, 7, 999, 999));
        is(160 * 80 * 198, f.valueByAll(1, 7, 999, 999));
        is(240, f.held(0));
        is(480, f.load(1));
        is(true, f.isSound());
        is(2 * 160 * 80, f.cut());
        is(2 * 160 * 80, f.complete());
        is(160 * 80, f.promisedSum(1));
        is("1 7 999 999 198 1", isPromised(f, 2 * 160 * 80 - 1));
    }

    private static void theVersions() {
        tooLateForVersions();
        dueLeftRows();
        versionOfItsTime();
        versionsThatCome();
        orderOfLeftRows();
        leftRowsLetGo();
        versionsLetGo();
        versionsLetGoLater();
        fullLogsOfVersions();
    }

    private static void tooLateForVersions() {
        about = "A row is dropped if the mark is greater than its time plus the grace.";
        for (int[] one : SIZES) {
            for (int part = 0; part < 3; part++) {
                for (int at = 10 + one[1]; at <= 11 + one[1]; at++) {
                    ViewFoundry f = with('v', 's', 'a', one[0], 1, one[1]);
                    mark(f, at);
                    row(f, part, 1, 10, 2);
                    boolean late = at > 10 + one[1];
                    is(late ? 1 : 0, f.dropped(0));
                    is(late ? 0 : 1, f.held(0));
                    is(!late && part < 2 && one[1] > 0 ? 1 : 0, f.told(0));
                    is(true, f.isSound());
                }
            }
        }
    }

    private static void dueLeftRows() {
        about = "it is due when the mark is greater than its time; if it is due as it comes, it is told then";
        for (int[] one : SIZES) {
            ViewFoundry f = with('v', 's', 'a', one[0], 1, one[1]);
            row(f, 0, 1, 10, 2);
            mark(f, 10);
            is(0, f.waiting());
            row(f, 1, 2, 10, 3);
            is(0, f.waiting());
            fails(NONE, () -> f.valueByAll(0, 1, 10, -1));
            mark(f, 11);
            is("0 1 10 -1 2 1, 0 2 10 -1 3 1", waitsFrom(f, 0));
            row(f, 0, 3, 10, 4);
            is(one[1] > 0 ? "0 3 10 -1 4 1" : "", waitsFrom(f, 2));
            is(true, f.isSound());
        }
        // No mark is greater than 999.
        ViewFoundry last = with('v', 's', 'a', 1, 1, 0);
        row(last, 0, 1, 999, 2);
        row(last, 0, 1, 998, 3);
        mark(last, 999);
        is("0 1 998 -1 3 1", waitsFrom(last, 0));
        is(1, last.held(0));
    }

    private static void versionOfItsTime() {
        about = "the version of its key that has the greatest time not greater than its own";
        ViewFoundry f = with('v', 's', 'a', 1, 1, 0);
        row(f, 2, 1, 0, 10);
        row(f, 2, 1, 4, -20);
        row(f, 2, 1, 5, 30);
        row(f, 2, 2, 6, 99);
        row(f, 2, 1, 7, -40);
        for (int time : new int[] {0, 3, 4, 5, 6, 7, 999}) {
            row(f, 0, 1, time, 1);
        }
        mark(f, 998);
        is("0 1 0 0 11 1, 0 1 3 0 11 1, 0 1 4 4 -19 1, 0 1 5 5 31 1, 0 1 6 5 31 1, 0 1 7 7 -39 1", waitsFrom(f, 0));
        about = "of several the one with the greatest value";
        int[][] orders = {{-3, -1, -2}, {-1, -2, -3}, {-2, -3, -1}};
        for (int[] order : orders) {
            ViewFoundry g = with('v', 's', 'a', 1, 1, 0);
            for (int value : order) {
                row(g, 2, 1, 5, value);
            }
            row(g, 2, 1, 4, 99);
            row(g, 0, 1, 5, 50);
            mark(g, 6);
            is("0 1 5 5 49 1", waitsFrom(g, 0));
            is(49, g.valueByAll(0, 1, 5, 5));
        }
        about = "without such a version, -1 as its to, and its own value";
        ViewFoundry none = with('v', 's', 'a', 1, 1, 0);
        row(none, 2, 1, 1, 7);
        row(none, 2, 2, 0, 7);
        row(none, 0, 1, 0, -99);
        mark(none, 1);
        is("0 1 0 -1 -99 1", waitsFrom(none, 0));
        is(-99, none.valueOf(0, 1, 0, -1));
        is(-99, none.valueByAll(0, 1, 0, -1));
    }

    private static void versionsThatCome() {
        about = "When a version comes, each left row of its key that is told and kept is told anew, in the order in which "
                + "they were taken.";
        ViewFoundry f = with('v', 's', 'a', 1, 1, 20);
        free(f);
        row(f, 0, 1, 12, 1);
        row(f, 0, 1, 10, 2);
        row(f, 0, 2, 11, 3);
        row(f, 0, 1, 11, 4);
        row(f, 0, 1, 15, 5);
        markIn(f, 0, 15);
        is(4, f.waiting());
        row(f, 2, 1, 11, 50);
        // 12 and 11, as they were taken: 10 is before the version, 15 is not told, and 2 is another key.
        is("0 1 12 -1 1 -1, 0 1 12 11 51 1, 0 1 11 -1 4 -1, 0 1 11 11 54 1", waitsFrom(f, 4));
        // The same sum with another to; then a version that changes nothing.
        row(f, 2, 1, 12, 50);
        is("0 1 12 11 51 -1, 0 1 12 12 51 1", waitsFrom(f, 8));
        row(f, 2, 1, 12, 50);
        row(f, 2, 1, 12, 49);
        row(f, 2, 1, 13, 49);
        row(f, 2, 2, 12, 50);
        is(10, f.waiting());
        is(true, f.isSound());
        markIn(f, 0, 16);
        is("0 1 15 13 54 1", waitsFrom(f, 10));
    }

    private static void orderOfLeftRows() {
        about = "Due ones are told by rising times, then by rising keys, then in the order in which they were taken.";
        ViewFoundry f = with('v', 's', 'a', 1, 1, 0);
        row(f, 0, 7, 9, 1);
        row(f, 0, 2, 9, 2);
        row(f, 1, 2, 9, 3);
        row(f, 0, 2, 9, 1);
        row(f, 1, 0, 10, 5);
        row(f, 1, 7, 8, 6);
        mark(f, 11);
        is("0 7 8 -1 6 1, 0 2 9 -1 2 1, 0 2 9 -1 3 1, 0 2 9 -1 1 1, 0 7 9 -1 1 1, 0 0 10 -1 5 1", waitsFrom(f, 0));
    }

    private static void leftRowsLetGo() {
        about = "A left row is let go when the mark is greater than its time plus the grace";
        for (int[] one : SIZES) {
            ViewFoundry f = with('v', 's', 'a', one[0], 1, one[1]);
            row(f, 0, 1, 10, 2);
            mark(f, 10 + one[1]);
            is(1, f.held(0));
            mark(f, 11 + one[1]);
            is(0, f.held(0));
            is(1, f.told(0));
            is(2, f.valueOf(0, 1, 10, -1));
            is(true, f.isSound());
        }
    }

    private static void versionsLetGo() {
        about = "a version when another one of its key, with a greater time, or the same and a greater value, or both the "
                + "same and a later one, has a time not greater than the mark less the grace";
        // Time and value of two versions, then of the one that stays as soon as the mark less the grace reaches it.
        int[][] twos = {{5, 1, 8, 1, 8, 1}, {8, 1, 5, 1, 8, 1}, {5, 1, 5, 2, 5, 2}, {5, 2, 5, 1, 5, 2},
            {5, 1, 5, 1, 5, 1}, {5, 99, 6, -99, 6, -99}, {0, 0, 1, 0, 1, 0}};
        for (int grace : new int[] {0, 2, 200}) {
            for (int[] two : twos) {
                ViewFoundry f = with('v', 's', 'a', 1, 1, grace);
                row(f, 2, 1, two[0], two[1]);
                row(f, 2, 1, two[2], two[3]);
                row(f, 2, 2, 9, 9);
                mark(f, two[4] + grace - 1);
                is(3, f.held(0));
                mark(f, two[4] + grace);
                is(2, f.held(0));
                mark(f, 998);
                is(2, f.held(0));
                row(f, 0, 1, 998, 0);
                mark(f, 999);
                is("0 1 998 " + two[4] + " " + two[5] + " 1", waitsFrom(f, 0));
                is(true, f.isSound());
            }
        }
    }

    private static void versionsLetGoLater() {
        about = "if it does, each view lets go what it need not keep: a version that comes too late is held until then";
        ViewFoundry f = with('v', 's', 'a', 1, 1, 5);
        free(f);
        row(f, 2, 1, 8, 1);
        markIn(f, 0, 13);
        row(f, 2, 1, 8, 0);
        is(2, f.held(0));
        markIn(f, 0, 13);
        is(2, f.held(0));
        markIn(f, 0, 14);
        is(1, f.held(0));
    }

    private static void fullLogsOfVersions() {
        about = "A log has at most 80 entries: 79 versions told anew for 160 left rows";
        ViewFoundry f = with('v', 's', 'a', 1, 1, 200);
        f.putMark(2, 100);
        for (int i = 0; i < 80; i++) {
            f.putRow(0, 7, i == 0 ? 100 : 50, i == 0 ? 0 : 1);
            f.putRow(1, 7, i == 0 ? 100 : 50, i == 0 ? 0 : 1);
            if (i > 0) {
                f.putRow(2, 7, 50, i);
            }
        }
        // The marks rise to 100 at once; all left rows but one come ahead of the versions, and one behind them.
        for (int part : new int[] {0, 1, 0, 1, 0, 1, 1}) {
            is(20, f.read(part, 20));
        }
        is(1, f.read(2, 1));
        is(19, f.read(0, 19));
        is(157, f.told(0));
        is(157, f.waiting());
        is(20, f.read(2, 20));
        is(157 + 20 * 157 * 2, f.waiting());
        for (int i = 0; i < 3; i++) {
            f.read(2, 20);
        }
        is(80, f.place(2));
        is(1, f.read(0, 1));
        is("0 7 50 50 80 1", waits(f, f.waiting() - 1));
        is(157 + 79 * 157 * 2 + 1, f.waiting());
        is(158, f.told(0));
        is(158 * 80, f.valueOf(0, 7, 50, 50));
        is(239, f.held(0));
        is(true, f.isSound());
    }

    private static void theCuts() {
        whatACutKeeps();
        whatACutPrepares();
        openCuts();
        crashesToTheBeginning();
        crashesWithoutReading();
        nothingStaysOfWhatCrashed();
    }

    /** What a cut keeps, as one text. */
    private static String kept(ViewFoundry f) {
        StringBuilder text = new StringBuilder();
        for (int part = 0; part < 3; part++) {
            text.append(f.place(part)).append(' ').append(f.markOf(part)).append(' ');
        }
        for (int view = 0; view < 4; view++) {
            text.append("| ").append(f.told(view)).append(' ').append(f.held(view)).append(' ').append(f.dropped(view));
        }
        for (int worker = 0; worker < 3; worker++) {
            text.append(' ').append(f.load(worker));
        }
        return text.append(' ').append(f.droppedShare()).append(' ').append(f.isSound()).toString();
    }

    private static ViewFoundry withFourViews() {
        ViewFoundry f = with('l', 's', 'a', 6, 3, 2);
        f.addView('s', 'x', 'e', 2, 1, 2);
        f.addView('j', 'c', 'a', 3, 1, 2);
        f.addView('v', 'c', 'p', 1, 1, 2);
        return f;
    }

    private static void someRows(ViewFoundry f, int time) {
        row(f, 0, 1, time, 2);
        row(f, 2, 1, time + 1, 4);
        row(f, 1, 4, time + 4, -3);
        mark(f, time + 5);
        row(f, 1, 1, time, 6);
        row(f, 0, 1, Math.max(0, time - 9), 8);
    }

    private static void whatACutKeeps() {
        about = "A cut keeps all: the places of the parts, their marks, and the views with all that they have, the numbers "
                + "of dropped rows too";
        ViewFoundry f = withFourViews();
        someRows(f, 20);
        f.cut();
        String due = kept(f);
        int value = f.valueOf(1, 1, 20, 20);
        f.complete();
        someRows(f, 28);
        is(false, due.equals(kept(f)));
        f.crash();
        is(due, kept(f));
        is(value, f.valueOf(1, 1, 20, 20));
        is(value, f.valueByAll(1, 1, 20, 20));
        // From there on, the same entries do the same again.
        ViewFoundry same = withFourViews();
        someRows(same, 20);
        same.cut();
        same.complete();
        someRows(same, 28);
        int[] parts = {0, 2, 1, 0, 1, 2, 1, 0};
        for (int part : parts) {
            is(1, f.read(part, 1));
        }
        is(kept(same), kept(f));
        is(waitsFrom(same, 0), waitsFrom(f, 0));
    }

    private static void whatACutPrepares() {
        about = "outputs that were made since the cut ahead, or the beginning, are prepared by it";
        ViewFoundry f = with('t', 's', 'a', 1, 1, 50);
        is(0, f.cut());
        is(0, f.complete());
        mark(f, 10);
        row(f, 0, 1, 3, 4);
        row(f, 0, 1, 4, 5);
        is(2, f.cut());
        row(f, 0, 1, 5, 6);
        about = "It is open until it is completed; then its outputs are promised, in their order.";
        is(0, f.promised());
        is(2, f.complete());
        is("0 1 3 4 4 1", isPromised(f, 0));
        is("0 1 4 5 5 1", isPromised(f, 1));
        fails(BOUNDS, () -> f.outputAt(2, 0));
        // What came behind the cut waits on, and is prepared by the next one alone.
        is("0 1 5 6 6 1", waitsFrom(f, 0));
        row(f, 0, 1, 5, 1);
        is(3, f.cut());
        is(5, f.complete());
        is("0 1 5 6 6 1", isPromised(f, 2));
        is("0 1 5 6 6 -1", isPromised(f, 3));
        is("0 1 5 6 7 1", isPromised(f, 4));
        is(0, f.cut());
        is(5, f.complete());
    }

    private static void openCuts() {
        about = "At a crash, all is as it was at the last cut that was completed; the open cut is gone, with all outputs "
                + "that were not promised.";
        ViewFoundry f = with('t', 's', 'a', 1, 1, 50);
        mark(f, 10);
        row(f, 0, 1, 3, 4);
        f.cut();
        row(f, 0, 1, 4, 5);
        f.complete();
        // The state is that of the cut, not that of its completion.
        is(1, f.crash());
        is(2, f.place(0));
        is(1, f.told(0));
        is(1, f.read(0, 9));
        is(1, f.cut());
        row(f, 0, 1, 5, 6);
        row(f, 0, 1, 6, 7);
        is(3, f.crash());
        is(2, f.place(0));
        is(1, f.promised());
        is(0, f.waiting());
        fails(STATE, () -> f.complete());
        is(3, f.read(0, 9));
        is(3, f.cut());
        is(4, f.complete());
        is("0 1 6 7 7 1", isPromised(f, 3));
    }

    private static void crashesToTheBeginning() {
        about = "or as at the beginning";
        ViewFoundry f = withFourViews();
        someRows(f, 20);
        f.cut();
        is(true, f.crash() > 0);
        for (int part = 0; part < 3; part++) {
            is(0, f.place(part));
            is(-1, f.markOf(part));
            is(part == 2 ? 2 : 3, f.entries(part));
        }
        for (int view = 0; view < 4; view++) {
            is(0, f.told(view));
            is(0, f.held(view));
            is(0, f.dropped(view));
        }
        is(0, f.promised());
        fails(NONE, () -> f.droppedShare());
        is(true, f.isSound());
    }

    private static void crashesWithoutReading() {
        about = "the open cut is gone, even if nothing was read";
        ViewFoundry f = new ViewFoundry();
        f.cut();
        is(0, f.crash());
        fails(STATE, () -> f.complete());
        is(0, f.cut());
        is(0, f.complete());
        is(0, f.crash());
        is(0, f.crash());
        is(0, f.cut());
    }

    private static void nothingStaysOfWhatCrashed() {
        about = "At a crash, all is as it was: nothing is left of what was read since";
        for (char kind : "tlsjv".toCharArray()) {
            for (boolean cut : new boolean[] {true, false}) {
                ViewFoundry due = readAtLast(kind, cut, false);
                ViewFoundry crashed = readAtLast(kind, cut, true);
                is(waitsFrom(due, 0), waitsFrom(crashed, 0));
                is(due.held(0), crashed.held(0));
                is(due.told(0), crashed.told(0));
                is(true, crashed.isSound());
                mark(due, 999);
                mark(crashed, 999);
                is(waitsFrom(due, 0), waitsFrom(crashed, 0));
                is(due.held(0), crashed.held(0));
                is(true, crashed.isSound());
            }
        }
        // The version was there for the left row, and behind the crash it comes behind it.
        ViewFoundry f = with('v', 's', 'a', 1, 1, 50);
        f.putMark(2, 20);
        f.putRow(2, 1, 5, 50);
        f.putRow(0, 1, 6, 1);
        f.putMark(0, 20);
        f.putMark(1, 20);
        f.read(2, 2);
        f.read(0, 2);
        f.read(1, 1);
        is("0 1 6 5 51 1", waitsFrom(f, 0));
        is(51, f.valueByAll(0, 1, 6, 5));
        is(1, f.crash());
        f.read(2, 1);
        f.read(0, 2);
        f.read(1, 1);
        is("0 1 6 -1 1 1", waitsFrom(f, 0));
        is(1, f.valueByAll(0, 1, 6, -1));
        fails(NONE, () -> f.valueByAll(0, 1, 6, 5));
        is(true, f.isSound());
        f.read(2, 1);
        is("0 1 6 -1 1 -1, 0 1 6 5 51 1", waitsFrom(f, 1));
    }

    /** Rows read in one order, at once or behind a crash that took back what another order had made of them. */
    private static ViewFoundry readAtLast(char kind, boolean cut, boolean crash) {
        ViewFoundry f = with(kind, 's', 'a', 4, 2, 30);
        for (int part = 0; part < 3; part++) {
            f.putMark(part, 3);
        }
        for (int i = 0; i < 6; i++) {
            f.putRow(2, i % 2, 4 + i, 10 * i);
            f.putRow(i % 2, i % 2, 5 + i, i + 1);
        }
        for (int part = 0; part < 3; part++) {
            f.putMark(part, 20);
        }
        if (cut) {
            readEach(f, 1);
            f.cut();
            f.complete();
        }
        if (crash) {
            f.read(2, 20);
            f.read(1, 20);
            f.read(0, 20);
            f.crash();
        }
        if (!cut) {
            readEach(f, 1);
        }
        readEach(f, 20);
        return f;
    }

    private static void readEach(ViewFoundry f, int many) {
        for (int part = 0; part < 3; part++) {
            f.read(part, many);
        }
    }

    private static void theWorkers() {
        about = "a key is on a worker, at first on the one with the remainder of the key divided by 3";
        ViewFoundry f = new ViewFoundry();
        for (int key = 0; key < 8; key++) {
            is(new int[] {0, 1, 2, 0, 1, 2, 0, 1}[key], f.workerOf(key));
        }
        about = "What is held of a key are the windows, sessions, kept rows and versions with it of all views.";
        ViewFoundry g = withFourViews();
        g.addView('t', 'c', 'a', 1, 1, 0);
        row(g, 0, 7, 3, 2);
        row(g, 2, 7, 3, 4);
        row(g, 1, 0, 999, -1);
        // Of 7: two windows, a session, two kept rows, a kept row and a version, and a window.
        is(8, g.load(1));
        // Of 0: the windows from 996 and 999 of six, a kept row, and a window of one.
        is(2 + 1 + 1, g.load(0));
        is(0, g.load(2));
        is(8, g.moveKey(7, 2));
        is(0, g.load(1));
        is(8, g.load(2));
        mark(g, 999);
        // All of the key 7 but the version is let go; what is held of the key 0 ends behind the greatest mark.
        is(1, g.load(2));
        is(4, g.load(0));
    }
}
