/** For each promise its ordinary answers, its edges, and its wrong inputs, all worked out by hand from the document. */
public final class PromiseTests extends Checks {
    public static void main(String[] args) {
        logs();
        adding();
        reading();
        windows();
        sessions();
        joins();
        versions();
        answers();
        cuts();
        workers();
        figures();
        widest();
        end();
    }

    private static void logs() {
        about = "promise 1";
        ViewFoundry f = new ViewFoundry();
        for (int part = 0; part < 3; part++) {
            is(0, f.entries(part));
            is(0, f.place(part));
            is(-1, f.markOf(part));
        }
        is(-1, f.mark());
        is(0, f.waiting());
        is(0, f.promised());
        is(0, f.crash());
        is(true, f.isSound());
        fails(BOUNDS, () -> f.told(0));

        about = "promise 2";
        is(0, f.putRow(0, 0, 0, -99));
        is(1, f.putRow(0, 7, 999, 99));
        is(0, f.putRow(2, 7, 999, 99));
        for (int part : new int[] {-1, 3}) {
            fails(ARGUMENT, () -> f.putRow(part, 0, 0, 0));
        }
        for (int key : new int[] {-1, 8}) {
            fails(ARGUMENT, () -> f.putRow(0, key, 0, 0));
        }
        for (int time : new int[] {-1, 1000}) {
            fails(ARGUMENT, () -> f.putRow(0, 0, time, 0));
        }
        for (int value : new int[] {-100, 100, Integer.MIN_VALUE}) {
            fails(ARGUMENT, () -> f.putRow(0, 0, 0, value));
        }
        is(2, f.entries(0));
        for (int i = 2; i < 80; i++) {
            is(i, i % 2 == 0 ? f.putRow(0, 0, 0, 0) : f.putMark(0, 0));
        }
        fails(STATE, () -> f.putRow(0, 0, 0, 0));
        fails(ARGUMENT, () -> f.putRow(0, 8, 0, 0));
        is(80, f.entries(0));
        f.read(0, 20);
        fails(STATE, () -> f.putRow(0, 0, 0, 0));

        about = "promise 3";
        is(0, f.putMark(1, 0));
        is(1, f.putMark(1, 999));
        for (int time : new int[] {-1, 1000}) {
            fails(ARGUMENT, () -> f.putMark(1, time));
        }
        fails(ARGUMENT, () -> f.putMark(3, 0));
        fails(ARGUMENT, () -> f.putMark(-1, 0));
        fails(STATE, () -> f.putMark(0, 0));
        fails(ARGUMENT, () -> f.putMark(0, 1000));

        about = "promise 4";
        ViewFoundry s = new ViewFoundry();
        is(0, s.setSlack(2, 99));
        is(99, s.setSlack(2, 3));
        is(0, s.setSlack(1, 0));
        fails(ARGUMENT, () -> s.setSlack(3, 0));
        fails(ARGUMENT, () -> s.setSlack(-1, 0));
        fails(ARGUMENT, () -> s.setSlack(0, 100));
        fails(ARGUMENT, () -> s.setSlack(0, -1));
        row(s, 2, 0, 50, 0);
        is(47, s.markOf(2));
        is(3, s.setSlack(2, 0));
        fails(STATE, () -> with('t', 'c', 'a', 1, 1, 0).setSlack(2, 0));
        fails(ARGUMENT, () -> with('t', 'c', 'a', 1, 1, 0).setSlack(2, 100));

        about = "promise 6";
        is(1, s.entries(2));
        is(0, s.entries(1));
        fails(ARGUMENT, () -> s.entries(3));
        fails(ARGUMENT, () -> s.entries(-1));
    }

    private static void adding() {
        about = "promise 5";
        ViewFoundry f = new ViewFoundry();
        is(0, f.addView('t', 'c', 'a', 1, 0, 0));
        is(1, f.addView('l', 's', 'e', 200, 200, 200));
        is(2, f.addView('s', 'x', 'p', 200, -5, 200));
        is(3, f.addView('j', 'b', 'a', 1, 999, 0));
        fails(ARGUMENT, () -> f.addView('T', 'c', 'a', 1, 1, 0));
        fails(ARGUMENT, () -> f.addView('v', 'z', 'a', 1, 1, 0));
        fails(ARGUMENT, () -> f.addView('v', 'm', 'c', 1, 1, 0));
        fails(ARGUMENT, () -> f.addView('v', 'm', 'a', 0, 1, 0));
        fails(ARGUMENT, () -> f.addView('v', 'm', 'a', 201, 1, 0));
        fails(ARGUMENT, () -> f.addView('v', 'm', 'a', 1, 1, -1));
        fails(ARGUMENT, () -> f.addView('v', 'm', 'a', 1, 1, 201));
        fails(ARGUMENT, () -> f.addView('l', 'm', 'a', 4, 5, 0));
        fails(ARGUMENT, () -> f.addView('l', 'm', 'a', 4, 0, 0));
        is(4, f.addView('v', 'm', 'a', 200, 1, 200));
        fails(STATE, () -> f.addView('v', 'm', 'a', 200, 1, 200));
        fails(ARGUMENT, () -> f.addView('v', 'm', 'a', 0, 1, 200));

        ViewFoundry read = new ViewFoundry();
        is(0, read.read(0, 5));
        is(0, read.addView('v', 'm', 'a', 1, 1, 0));
        read.putMark(0, 1);
        is(1, read.addView('v', 'm', 'a', 1, 1, 0));
        is(1, read.read(0, 5));
        fails(STATE, () -> read.addView('v', 'm', 'a', 1, 1, 0));
        read.crash();
        fails(STATE, () -> read.addView('v', 'm', 'a', 1, 1, 0));

        ViewFoundry cut = new ViewFoundry();
        is(0, cut.crash());
        is(0, cut.addView('v', 'm', 'a', 1, 1, 0));
        is(0, cut.cut());
        is(0, cut.crash());
        is(0, cut.told(0));
        fails(STATE, () -> cut.addView('v', 'm', 'a', 1, 1, 0));

        // What the filters let in: windows of one time, all told.
        String[] due = {"a 5", "e 3", "p 2"};
        for (String filter : due) {
            ViewFoundry g = with('t', 'c', filter.charAt(0), 100, 1, 0);
            row(g, 0, 1, 5, -2);
            row(g, 0, 1, 5, 1);
            row(g, 1, 1, 5, 4);
            row(g, 1, 1, 5, -3);
            row(g, 1, 1, 5, 0);
            row(g, 2, 1, 5, 4);
            mark(g, 100);
            is(filter.charAt(2) - '0', g.valueOf(0, 1, 0, 100));
        }
        ViewFoundry zero = with('t', 'c', 'p', 100, 1, 0);
        row(zero, 0, 1, 5, 0);
        is(0, zero.held(0));
    }

    private static void reading() {
        ViewFoundry f = new ViewFoundry();
        f.setSlack(0, 5);
        about = "promise 7";
        for (int i = 0; i < 25; i++) {
            f.putRow(0, 0, i, 0);
        }
        is(3, f.read(0, 3));
        is(20, f.read(0, 20));
        is(2, f.read(0, 20));
        is(0, f.read(0, 1));
        for (int many : new int[] {0, 21, -1}) {
            fails(ARGUMENT, () -> f.read(0, many));
        }
        fails(ARGUMENT, () -> f.read(3, 1));
        fails(ARGUMENT, () -> f.read(-1, 1));

        about = "promise 8";
        is(25, f.place(0));
        is(0, f.place(1));
        fails(ARGUMENT, () -> f.place(3));
        fails(ARGUMENT, () -> f.place(-1));

        about = "promise 9";
        is(19, f.markOf(0));
        row(f, 0, 0, 10, 0);
        is(19, f.markOf(0));
        f.putMark(0, 18);
        f.putMark(0, 20);
        f.read(0, 1);
        is(19, f.markOf(0));
        f.read(0, 1);
        is(20, f.markOf(0));
        fails(ARGUMENT, () -> f.markOf(3));
        fails(ARGUMENT, () -> f.markOf(-1));
        ViewFoundry slow = new ViewFoundry();
        slow.setSlack(1, 99);
        row(slow, 1, 0, 3, 0);
        is(-1, slow.markOf(1));

        about = "promise 10";
        is(-1, f.mark());
        row(f, 1, 0, 30, 0);
        row(f, 2, 0, 7, 0);
        is(7, f.mark());
        row(f, 2, 0, 70, 0);
        is(20, f.mark());
    }

    private static void windows() {
        // Windows of 4 by 2: a time lies in two of them; times below 2 lie in the first alone.
        ViewFoundry f = with('l', 's', 'a', 4, 2, 3);
        free(f);
        about = "promise 11";
        row(f, 0, 2, 3, 10);
        row(f, 0, 1, 1, 7);
        is(3, f.held(0));
        is(0, f.told(0));
        row(f, 0, 5, 4, 1);
        // The mark is 4: the windows from 0 of the keys 1 and 2 are due, by rising keys.
        is(2, f.told(0));
        is("0 1 0 4 7 1", waits(f, 0));
        is("0 2 0 4 10 1", waits(f, 1));
        about = "promise 13";
        is(10, f.valueByAll(0, 2, 0, 4));
        fails(NONE, () -> f.valueByAll(0, 2, 2, 6));
        about = "promise 12";
        is(10, f.valueOf(0, 2, 0, 4));
        fails(NONE, () -> f.valueOf(0, 2, 2, 6));
        fails(NONE, () -> f.valueOf(0, 2, 0, 5));
        // A late row: the told window from 0 is told anew, the one from 2 is not due yet.
        row(f, 0, 2, 2, 5);
        is("0 2 0 4 10 -1", waits(f, 2));
        is("0 2 0 4 15 1", waits(f, 3));
        is(4, f.waiting());
        // Nothing changes the sum, so nothing is told anew.
        row(f, 0, 2, 2, 0);
        is(4, f.waiting());
        // The mark 7 is the end of the window from 0 and its grace: let go, and rows of it are dropped.
        f.putMark(0, 7);
        about = "promise 16";
        int before = f.held(0);
        f.read(0, 1);
        is(before - 2, f.held(0));
        about = "promise 15";
        row(f, 0, 2, 2, 20);
        is(1, f.dropped(0));
        is(15, f.valueOf(0, 2, 0, 4));
        is(15, f.valueByAll(0, 2, 0, 4));
        is(35, f.valueOf(0, 2, 2, 6));
        // A late row in a window of its own is told at once.
        row(f, 0, 6, 4, 9);
        is(9, f.valueOf(0, 6, 2, 6));
        is(true, f.isSound());
        // What is due now is told by rising ends, then by rising keys.
        int waited = f.waiting();
        row(f, 0, 0, 20, 1);
        is("0 5 4 8 1 1", waits(f, waited));
        is("0 6 4 8 9 1", waits(f, waited + 1));

        about = "promise 5";
        measures();
        ViewFoundry edge = with('t', 'c', 'a', 10, 3, 0);
        row(edge, 0, 1, 9, 1);
        row(edge, 0, 1, 10, 1);
        mark(edge, 10);
        is(1, edge.told(0));
        is(1, edge.valueOf(0, 1, 0, 10));
        row(edge, 0, 1, 9, 1);
        is(1, edge.dropped(0));
        mark(edge, 999);
        is(1, edge.valueOf(0, 1, 10, 20));
        // A window that ends behind the last time is never due.
        ViewFoundry last = with('t', 'c', 'a', 8, 1, 0);
        row(last, 0, 1, 999, 1);
        mark(last, 999);
        is(0, last.told(0));
        is(1, last.held(0));
        // The last window begins at the last time.
        ViewFoundry one = with('t', 's', 'a', 1, 1, 0);
        row(one, 0, 0, 999, 1);
        row(one, 0, 0, 999, 1);
        is(1, one.held(0));
        // The first window, and the first key.
        row(one, 1, 0, 0, 2);
        row(one, 2, 0, 1, 2);
        mark(one, 1);
        is(2, one.valueOf(0, 0, 0, 1));
        is(2, one.valueByAll(0, 0, 0, 1));
        is(0, one.firstFrom(0, 0));
        is(1, one.held(0));
        is(1, one.load(0));
        // A row in 200 windows.
        ViewFoundry wide = with('l', 'c', 'a', 200, 1, 0);
        row(wide, 0, 1, 500, 1);
        is(200, wide.held(0));
        mark(wide, 600);
        is(100, wide.told(0));
        is(100, wide.held(0));
        row(wide, 0, 1, 500, 1);
        is(100, wide.dropped(0));
        is(301, wide.firstFrom(0, 1));
    }

    private static void measures() {
        int[] values = {99, 50, -10};
        Object[] due = {"c", 3, "s", 139, "x", 99, "b", (int) (byte) 139, "m", Float.floatToIntBits(139f / 3f)};
        for (int i = 0; i < due.length; i += 2) {
            ViewFoundry f = with('t', ((String) due[i]).charAt(0), 'a', 10, 1, 0);
            ViewFoundry g = with('s', ((String) due[i]).charAt(0), 'a', 10, 1, 0);
            for (int value : values) {
                row(f, 0, 3, 15, value);
                row(g, 0, 3, 15, value);
            }
            mark(f, 30);
            mark(g, 30);
            is(due[i + 1], f.valueOf(0, 3, 10, 20));
            is(due[i + 1], g.valueOf(0, 3, 15, 15));
            is(due[i + 1], g.valueByAll(0, 3, 15, 15));
        }
        int[][] means = {{-1, -1, -1}, {-7, 3, 0}, {1, -1, 0}, {99, 98, 99}, {0, 0, 1}, {2, 2, 2}};
        for (int[] three : means) {
            ViewFoundry f = with('t', 'm', 'a', 10, 1, 0);
            for (int value : three) {
                row(f, 0, 3, 15, value);
            }
            mark(f, 30);
            float mean = (float) (three[0] + three[1] + three[2]) / 3f;
            is(Float.floatToIntBits(mean), f.valueOf(0, 3, 10, 20));
        }
    }

    private static void sessions() {
        about = "promise 11";
        ViewFoundry f = with('s', 'c', 'a', 3, 1, 2);
        free(f);
        row(f, 0, 1, 10, 1);
        row(f, 0, 1, 17, 1);
        row(f, 0, 0, 17, 1);
        // 10 and 17 lie more than 3 apart; the mark 13 is not greater than 10 and 3, 14 is.
        is(3, f.held(0));
        is(1, f.told(0));
        is("0 1 10 10 1 1", waits(f, 0));
        // 13 reaches 10, not 17; 13 and 3 is 16, so with the mark 17 the session is due and told anew.
        row(f, 0, 1, 13, 1);
        is("0 1 10 10 1 -1", waits(f, 1));
        is("0 1 10 13 2 1", waits(f, 2));
        // 14 joins it with the one of 17: what was told is taken back, and the new one is not due.
        row(f, 0, 1, 14, 1);
        is(0, f.told(0));
        is("0 1 10 13 2 -1", waits(f, 3));
        is(4, f.waiting());
        is(2, f.held(0));
        about = "promise 15";
        // With the mark 17, a row of 11 is dropped: 11 and 3 and 1 and 2 is 17; one of 12 is not.
        row(f, 0, 1, 11, 1);
        is(1, f.dropped(0));
        row(f, 0, 2, 12, 1);
        is(1, f.dropped(0));
        is("0 2 12 12 1 1", waits(f, 4));
        about = "promise 16";
        // It is let go when the mark is greater than 12 and 6 and 2.
        is(3, f.held(0));
        row(f, 0, 7, 20, 1);
        is(4, f.held(0));
        row(f, 0, 7, 21, 1);
        is(3, f.held(0));
        // The mark 21 makes those of 17 due, by rising keys.
        is("0 0 17 17 1 1", waits(f, 5));
        is("0 1 10 17 4 1", waits(f, 6));
        about = "promise 13";
        is(4, f.valueByAll(0, 1, 10, 17));
        is(1, f.valueByAll(0, 2, 12, 12));
        fails(NONE, () -> f.valueByAll(0, 7, 20, 21));
        fails(NONE, () -> f.valueOf(0, 7, 20, 21));
        is(true, f.isSound());

        // Two told ones are taken back by rising first times, and the new one is told.
        ViewFoundry two = with('s', 's', 'a', 5, 1, 50);
        free(two);
        row(two, 0, 4, 18, 2);
        row(two, 0, 4, 8, 1);
        row(two, 0, 3, 40, 1);
        is("0 4 8 8 1 1", waits(two, 0));
        is("0 4 18 18 2 1", waits(two, 1));
        row(two, 0, 4, 13, 4);
        is("0 4 8 8 1 -1", waits(two, 2));
        is("0 4 18 18 2 -1", waits(two, 3));
        is("0 4 8 18 7 1", waits(two, 4));
        is(5, two.waiting());
        // Told anew with the same value, but another from; then with nothing changed.
        row(two, 0, 4, 6, 0);
        is("0 4 8 18 7 -1", waits(two, 5));
        is("0 4 6 18 7 1", waits(two, 6));
        row(two, 0, 4, 7, 0);
        is(7, two.waiting());
        is(1, two.told(0));
        is(2, two.held(0));
        // Right rows are not let in.
        row(two, 2, 4, 6, 0);
        is(7, two.waiting());
        is(0, two.dropped(0));
    }

    private static void joins() {
        about = "promise 11";
        ViewFoundry f = with('j', 'c', 'a', 5, 1, 2);
        f.putMark(1, 999);
        f.read(1, 1);
        row(f, 2, 1, 15, 10);
        row(f, 2, 1, 5, 20);
        row(f, 2, 1, 4, 30);
        row(f, 2, 2, 10, 40);
        is(4, f.held(0));
        row(f, 0, 1, 10, 3);
        is("0 1 10 15 13 1", waits(f, 0));
        is("0 1 10 5 23 1", waits(f, 1));
        is(2, f.waiting());
        row(f, 0, 1, 10, 3);
        about = "promise 12";
        is(26, f.valueOf(0, 1, 10, 15));
        about = "promise 13";
        is(26, f.valueByAll(0, 1, 10, 15));
        fails(NONE, () -> f.valueByAll(0, 1, 10, 4));
        about = "promise 11";
        is(4, f.told(0));
        // Left rows do not join with left ones; a right row joins with those that came ahead.
        row(f, 2, 1, 12, -5);
        is("0 1 10 12 -2 1", waits(f, 4));
        is(6, f.waiting());
        about = "promise 16";
        // The mark is 10. Rows of 4 stay up to the mark 16, those of 5 up to 17.
        is(7, f.held(0));
        f.putMark(0, 16);
        f.putMark(0, 17);
        f.putMark(0, 18);
        f.putMark(2, 999);
        f.read(2, 1);
        f.read(0, 1);
        is(7, f.held(0));
        f.read(0, 1);
        is(6, f.held(0));
        f.read(0, 1);
        is(5, f.held(0));
        about = "promise 15";
        // With the mark 18, a row of 10 is dropped, one of 11 is not.
        row(f, 2, 1, 10, 0);
        is(1, f.dropped(0));
        row(f, 2, 1, 11, 0);
        is(1, f.dropped(0));
        is(8, f.told(0));
        is(true, f.isSound());
    }

    private static void versions() {
        about = "promise 11";
        ViewFoundry f = with('v', 'c', 'a', 1, 1, 4);
        free(f);
        row(f, 0, 1, 10, 3);
        row(f, 0, 0, 10, 5);
        row(f, 0, 1, 9, 1);
        // 9 is late, as the mark is 10, and told at once; those of 10 are not due.
        is("0 1 9 -1 1 1", waits(f, 0));
        is(1, f.waiting());
        row(f, 0, 1, 11, 7);
        is("0 0 10 -1 5 1", waits(f, 1));
        is("0 1 10 -1 3 1", waits(f, 2));
        // A version of 10 changes the row of 10, not that of 9; the one of 11 is not told yet.
        row(f, 2, 1, 10, 20);
        is("0 1 10 -1 3 -1", waits(f, 3));
        is("0 1 10 10 23 1", waits(f, 4));
        is(5, f.waiting());
        // An older one changes the row of 9 alone, a lesser one of the same time nothing, a greater one the row of 10.
        row(f, 2, 1, 7, 50);
        is("0 1 9 7 51 1", waits(f, 6));
        row(f, 2, 1, 10, 19);
        is(7, f.waiting());
        row(f, 2, 1, 10, 21);
        is("0 1 10 10 24 1", waits(f, 8));
        about = "promise 12";
        is(24, f.valueOf(0, 1, 10, 10));
        about = "promise 13";
        is(24, f.valueByAll(0, 1, 10, 10));
        is(5, f.valueByAll(0, 0, 10, -1));
        fails(NONE, () -> f.valueByAll(0, 1, 11, 10));
        about = "promise 15";
        // With the mark 11, a row of 6 is dropped.
        row(f, 2, 1, 6, 0);
        row(f, 0, 1, 6, 0);
        is(2, f.dropped(0));
        about = "promise 16";
        is(8, f.held(0));
        // The mark 14: 14 less 4 is 10, so the version of 7 goes, and the lesser of 10; the row of 9 goes.
        row(f, 0, 5, 14, 0);
        is(9 - 2 - 2, f.held(0));
        is("0 1 11 10 28 1", waits(f, 9));
        // The row of 10 is still kept and told anew.
        row(f, 2, 1, 10, 30);
        is("0 1 10 10 33 1", waits(f, 11));
        is("0 1 11 10 37 1", waits(f, 13));
        is(6, f.held(0));
        // The same version once more: the later one stays, when the mark rises.
        row(f, 2, 1, 10, 30);
        is(7, f.held(0));
        f.putMark(0, 15);
        f.read(0, 1);
        // Gone: both rows of 10, the versions 21 and 30; left: the rows of 11 and 14, a version.
        is(3, f.held(0));
        is(true, f.isSound());
        // Due ones by rising times, then keys, then as they were taken.
        ViewFoundry due = with('v', 'c', 'a', 1, 1, 0);
        row(due, 0, 3, 8, 1);
        row(due, 0, 2, 8, 2);
        row(due, 0, 2, 8, 3);
        row(due, 0, 5, 7, 4);
        mark(due, 8);
        is(1, due.told(0));
        mark(due, 9);
        is("0 5 7 -1 4 1", waits(due, 0));
        is("0 2 8 -1 2 1", waits(due, 1));
        is("0 2 8 -1 3 1", waits(due, 2));
        is("0 3 8 -1 1 1", waits(due, 3));
        is(5, due.valueOf(0, 2, 8, -1));
    }

    private static void answers() {
        ViewFoundry f = with('l', 'c', 'a', 4, 2, 0);
        f.addView('s', 'c', 'p', 1, 1, 0);
        row(f, 0, 1, 7, -1);
        row(f, 1, 1, 3, 2);
        mark(f, 50);
        about = "promise 11";
        is(4, f.told(0));
        is(1, f.told(1));
        for (int view : new int[] {-1, 2, Integer.MAX_VALUE}) {
            fails(BOUNDS, () -> f.told(view));
            about = "promise 12";
            fails(BOUNDS, () -> f.valueOf(view, 1, 0, 4));
            about = "promise 13";
            fails(BOUNDS, () -> f.valueByAll(view, 1, 0, 4));
            about = "promise 14";
            fails(BOUNDS, () -> f.firstFrom(view, 1));
            about = "promise 15";
            fails(BOUNDS, () -> f.dropped(view));
            about = "promise 16";
            fails(BOUNDS, () -> f.held(view));
            about = "promise 24";
            fails(BOUNDS, () -> f.promisedSum(view));
            about = "promise 28";
            fails(BOUNDS, () -> f.meanOf(view, 1));
            about = "promise 29";
            fails(BOUNDS, () -> f.rest(view, 1, 0));
        }
        about = "promise 12";
        is(1, f.valueOf(0, 1, 0, 4));
        fails(NONE, () -> f.valueOf(0, 9, 0, 4));
        fails(NONE, () -> f.valueOf(0, -7, 0, 4));
        fails(NONE, () -> f.valueOf(0, 1, 1024, 4));
        fails(NONE, () -> f.valueOf(0, 1, 0, 2052));
        fails(NONE, () -> f.valueOf(0, 1, 8, 12));
        about = "promise 13";
        is(1, f.valueByAll(0, 1, 0, 4));
        fails(NONE, () -> f.valueByAll(0, 9, 0, 4));
        fails(NONE, () -> f.valueByAll(0, 1, 8, 12));
        about = "promise 14";
        is(0, f.firstFrom(0, 1));
        is(3, f.firstFrom(1, 1));
        fails(NONE, () -> f.firstFrom(0, 0));
        fails(NONE, () -> f.firstFrom(0, 8));
        about = "promise 16";
        is(0, f.held(0));
        about = "promise 31";
        is(true, f.isSound());
    }

    private static void cuts() {
        ViewFoundry f = with('t', 's', 'a', 10, 1, 5);
        f.addView('s', 'c', 'a', 2, 1, 9);
        free(f);
        row(f, 0, 1, 3, 4);
        row(f, 0, 2, 11, 6);
        about = "promise 17";
        is(2, f.waiting());
        about = "promise 23";
        is("0 1 0 10 4 1", waits(f, 0));
        is("1 1 3 3 1 1", waits(f, 1));
        fails(BOUNDS, () -> f.waitingAt(2, 0));
        fails(BOUNDS, () -> f.waitingAt(-1, 6));
        fails(ARGUMENT, () -> f.waitingAt(1, 6));
        fails(ARGUMENT, () -> f.waitingAt(1, -1));
        about = "promise 19";
        fails(STATE, () -> f.complete());
        about = "promise 18";
        is(2, f.cut());
        fails(STATE, () -> f.cut());
        about = "promise 17";
        is(0, f.waiting());
        about = "promise 21";
        is(0, f.promised());
        about = "promise 23";
        fails(BOUNDS, () -> f.waitingAt(0, 0));
        about = "promise 22";
        fails(BOUNDS, () -> f.outputAt(0, 0));
        // Behind the cut, the told window changes.
        row(f, 0, 1, 4, 1);
        about = "promise 17";
        is(4, f.waiting());
        about = "promise 23";
        is("0 1 0 10 4 -1", waits(f, 0));
        is("0 1 0 10 5 1", waits(f, 1));
        is("1 1 3 3 1 -1", waits(f, 2));
        is("1 1 3 4 2 1", waits(f, 3));
        about = "promise 19";
        is(2, f.complete());
        fails(STATE, () -> f.complete());
        about = "promise 21";
        is(2, f.promised());
        about = "promise 17";
        is(4, f.waiting());
        about = "promise 22";
        is(1, f.outputAt(1, 0));
        is(1, f.outputAt(0, 1));
        is(0, f.outputAt(0, 2));
        is(10, f.outputAt(0, 3));
        is(4, f.outputAt(0, 4));
        is(1, f.outputAt(0, 5));
        fails(BOUNDS, () -> f.outputAt(2, 0));
        fails(BOUNDS, () -> f.outputAt(-1, 9));
        fails(ARGUMENT, () -> f.outputAt(0, 6));
        fails(ARGUMENT, () -> f.outputAt(0, -1));
        about = "promise 24";
        is(1, f.promisedSum(0));
        is(1, f.promisedSum(1));
        about = "promise 20";
        is(4, f.crash());
        is(4, f.valueOf(0, 1, 0, 10));
        is(1, f.valueOf(1, 1, 3, 3));
        is(2, f.place(0));
        is(1, f.place(2));
        is(3, f.entries(0));
        is(11, f.mark());
        is(999, f.markOf(1));
        is(2, f.held(0));
        is(2, f.promised());
        is(0, f.waiting());
        is(1, f.outputAt(1, 0));
        is(0, f.crash());
        // Reading once more does the same again; an open cut is lost with all that it prepared.
        f.read(0, 1);
        about = "promise 18";
        is(4, f.cut());
        row(f, 0, 1, 2, 1);
        about = "promise 17";
        is(4, f.waiting());
        about = "promise 20";
        is(8, f.crash());
        is(true, f.isSound());
        about = "promise 19";
        fails(STATE, () -> f.complete());
        f.read(0, 1);
        about = "promise 18";
        is(4, f.cut());
        about = "promise 19";
        is(6, f.complete());
        about = "promise 22";
        is(-1, f.outputAt(2, 5));
        is(5, f.outputAt(3, 4));
        about = "promise 24";
        is(1, f.promisedSum(0));
        is(1, f.promisedSum(1));
        fails(BOUNDS, () -> f.promisedSum(2));
        about = "promise 20";
        is(0, f.crash());
        is(5, f.valueOf(0, 1, 0, 10));
        dropsAndBeginnings();
    }

    private static void dropsAndBeginnings() {
        about = "promise 20";
        ViewFoundry f = with('t', 's', 'a', 10, 1, 0);
        mark(f, 10);
        row(f, 0, 1, 3, 4);
        is(1, f.dropped(0));
        f.cut();
        row(f, 0, 1, 3, 4);
        is(2, f.dropped(0));
        is(0, f.crash());
        is(0, f.dropped(0));
        is(0, f.place(0));
        is(-1, f.mark());
        is(3, f.read(0, 9));
        is(0, f.dropped(0));
        is(1, f.held(0));
        f.cut();
        f.complete();
        f.read(1, 1);
        f.read(2, 1);
        is(1, f.told(0));
        is(1, f.crash());
        is(0, f.told(0));
        is(1, f.held(0));
        is(1, f.load(1));
        // A crash repeats what was read with the slack that there was.
        ViewFoundry slack = new ViewFoundry();
        slack.setSlack(0, 5);
        row(slack, 0, 1, 30, 0);
        slack.cut();
        slack.complete();
        slack.setSlack(0, 9);
        row(slack, 0, 1, 50, 0);
        is(41, slack.markOf(0));
        slack.crash();
        is(25, slack.markOf(0));
    }

    /** The most outputs that can be: 158 rows, each late in 200 told windows of each of five views. */
    private static void widest() {
        about = "promise 17";
        ViewFoundry f = new ViewFoundry();
        for (int view = 0; view < 5; view++) {
            f.addView('l', 's', 'a', 200, 1, 200);
        }
        mark(f, 400);
        for (int i = 0; i < 158; i++) {
            f.putRow(i % 2, 7, 200, 99);
        }
        for (int calls = 0; calls < 5; calls++) {
            for (int i = 0; i < 8; i++) {
                f.read(i % 2, 20);
            }
            is(5 * 200 * (1 + 157 * 2), f.waiting());
            is("4 7 200 400 15642 1", waits(f, f.waiting() - 1));
            is(200, f.told(4));
            is(200, f.held(0));
            is(1000, f.load(1));
            is(158 * 99, f.valueByAll(3, 7, 1, 201));
            about = "promise 31";
            is(true, f.isSound());
            about = "promise 20";
            is(315000, f.crash());
            is(0, f.waiting());
            for (int part = 0; part < 3; part++) {
                f.read(part, 1);
            }
        }
    }

    private static void workers() {
        ViewFoundry f = with('l', 'c', 'a', 4, 2, 0);
        f.addView('s', 'c', 'a', 3, 1, 0);
        f.addView('v', 'c', 'a', 3, 1, 0);
        row(f, 0, 1, 8, 1);
        row(f, 2, 1, 8, 1);
        row(f, 0, 4, 8, 1);
        row(f, 0, 2, 8, 1);
        about = "promise 26";
        for (int key = 0; key < 8; key++) {
            is(key % 3, f.workerOf(key));
        }
        fails(ARGUMENT, () -> f.workerOf(8));
        fails(ARGUMENT, () -> f.workerOf(-1));
        about = "promise 27";
        is(0, f.load(0));
        is(9, f.load(1));
        is(4, f.load(2));
        fails(ARGUMENT, () -> f.load(3));
        fails(ARGUMENT, () -> f.load(-1));
        about = "promise 25";
        is(5, f.moveKey(1, 0));
        is(0, f.moveKey(0, 2));
        is(4, f.moveKey(2, 2));
        fails(ARGUMENT, () -> f.moveKey(8, 0));
        fails(ARGUMENT, () -> f.moveKey(-1, 0));
        fails(ARGUMENT, () -> f.moveKey(0, 3));
        fails(ARGUMENT, () -> f.moveKey(0, -1));
        is(5, f.load(0));
        is(4, f.load(1));
        is(4, f.load(2));
        f.crash();
        is(0, f.workerOf(1));
        is(2, f.workerOf(0));
        is(0, f.load(0));
    }

    private static void figures() {
        ViewFoundry f = with('t', 's', 'a', 10, 1, 0);
        f.addView('j', 'c', 'a', 3, 1, 0);
        about = "promise 30";
        fails(NONE, () -> f.droppedShare());
        f.putMark(0, 0);
        f.read(0, 1);
        fails(NONE, () -> f.droppedShare());
        row(f, 0, 1, 5, -7);
        row(f, 0, 1, 15, 4);
        row(f, 0, 2, 15, 4);
        row(f, 1, 3, 25, 9);
        mark(f, 40);
        about = "promise 28";
        is(-2f, f.meanOf(0, 1));
        is(4f, f.meanOf(0, 2));
        is(9f, f.meanOf(0, 3));
        fails(NONE, () -> f.meanOf(0, 4));
        fails(NONE, () -> f.meanOf(0, -1));
        fails(NONE, () -> f.meanOf(1, 1));
        about = "promise 29";
        is(Float.floatToIntBits(9f % 1.75f), f.rest(0, 3, 7));
        is(Float.floatToIntBits(9f % 1.75f), f.rest(0, 3, -7));
        is(Float.floatToIntBits(-2f % 0.75f), f.rest(0, 1, 3));
        is(Float.floatToIntBits(-0f), f.rest(0, 1, 8));
        is(Float.floatToIntBits(9f % (2147483647 / 4f)), f.rest(0, 3, Integer.MAX_VALUE));
        is(Float.floatToIntBits(9f), f.rest(0, 3, Integer.MIN_VALUE));
        is(0, f.rest(0, 3, 1));
        fails(ARGUMENT, () -> f.rest(0, 3, 0));
        fails(NONE, () -> f.rest(0, 4, 0));
        about = "promise 30";
        is(0.0, f.droppedShare());
        row(f, 0, 1, 5, 1);
        // Both views drop it: 2 of 5 rows; then a right row, that the join drops alone.
        is(2.0 / 5.0, f.droppedShare());
        row(f, 2, 1, 5, 1);
        is(3.0 / 6.0, f.droppedShare());
        f.putRow(2, 1, 5, 1);
        is(3.0 / 6.0, f.droppedShare());
        ViewFoundry none = new ViewFoundry();
        row(none, 2, 0, 0, 0);
        is(0.0, none.droppedShare());

        about = "promise 28";
        // Bits of means are great numbers; their sum goes beyond an int.
        ViewFoundry great = with('t', 'm', 'a', 10, 1, 0);
        row(great, 0, 1, 5, 7);
        row(great, 0, 1, 15, 9);
        row(great, 0, 1, 25, 11);
        mark(great, 40);
        double sum = (double) Float.floatToIntBits(7f) + Float.floatToIntBits(9f) + Float.floatToIntBits(11f);
        is((float) Math.floor(sum / 3.0), great.meanOf(0, 1));
        about = "promise 29";
        is(Float.floatToIntBits(great.meanOf(0, 1) % (float) (1000003 / 4f)), great.rest(0, 1, 1000003));
        about = "promise 31";
        is(true, great.isSound());
        is(true, f.isSound());
    }
}
