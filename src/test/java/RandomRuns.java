import java.util.List;

/** Runs of calls by fixed seeds, each answered by the program and by NaiveFoundry. */
public final class RandomRuns {
    private static final int CALLS = 512;
    private static final int REPORTS = 20;
    private static int wrong = 0;

    private interface Call {
        Object answer();
    }

    private final ViewFoundry made = new ViewFoundry();
    private final NaiveFoundry naive = new NaiveFoundry();
    private final int seed;
    private long state;
    private final int times;
    private final int start;
    private final int keys;
    private final int sizes;
    private final int graces;
    private final int wrongness;
    private int calls = 0;

    private RandomRuns(int seed) {
        this.seed = seed;
        state = seed * 7919L + 17;
        times = new int[] {12, 40, 150, 1000}[below(4)];
        start = below(3) * below(1001 - times) / 2;
        keys = 1 + below(8);
        sizes = new int[] {2, 8, 40, 200}[below(4)];
        graces = new int[] {1, 5, 30, 201}[below(4)];
        wrongness = new int[] {3, 40}[below(2)];
    }

    public static void main(String[] args) {
        int runs = args.length > 0 ? Integer.parseInt(args[0]) : 1500;
        int first = args.length > 1 ? Integer.parseInt(args[1]) : 0;
        long calls = 0;
        for (int seed = first; seed < first + runs; seed++) {
            RandomRuns run = new RandomRuns(seed);
            run.go();
            calls += run.calls;
        }
        System.out.println(runs + " runs, " + calls + " calls, " + wrong + " wrong");
        if (wrong != 0) {
            System.exit(1);
        }
    }

    private int below(int bound) {
        state = state * 6364136223846793005L + 1442695040888963407L;
        return (int) ((state >>> 33) % bound);
    }

    private boolean rarely() {
        return below(100) < wrongness && below(10) == 0;
    }

    private int pick(int low, int high) {
        return rarely() ? new int[] {low - 1, high + 1, Integer.MIN_VALUE, Integer.MAX_VALUE}[below(4)]
                : low + below(high - low + 1);
    }

    private void compare(String name, Call mine, Call due) {
        calls++;
        Object got = answerOf(mine);
        Object want = answerOf(due);
        if (!got.equals(want)) {
            wrong++;
            if (wrong <= REPORTS) {
                System.out.println("seed " + seed + ", call " + calls + ", " + name + ": " + got + ", due " + want);
            }
        }
    }

    private static Object answerOf(Call call) {
        try {
            return call.answer();
        } catch (RuntimeException e) {
            String thrower = e.getStackTrace()[0].getClassName();
            boolean own = thrower.equals("ViewFoundry") || thrower.equals("NaiveFoundry");
            return own ? e.getClass().getName() : e;
        }
    }

    private void go() {
        int slacks = below(4);
        for (int i = 0; i < slacks; i++) {
            int part = pick(0, 2);
            int slack = pick(0, below(3) == 0 ? 99 : 5);
            compare("setSlack", () -> made.setSlack(part, slack), () -> naive.setSlack(part, slack));
        }
        if (below(20) != 0) {
            int views = 1 + below(6);
            for (int i = 0; i < views; i++) {
                addView();
            }
        }
        boolean oftenPut = below(2) == 0;
        while (calls < CALLS) {
            int what = below(100);
            if (what < 30 || oftenPut && calls < 150 && what < 70) {
                put();
            } else if (what < 50) {
                int part = pick(0, 2);
                int many = pick(1, below(2) == 0 ? 20 : 3);
                compare("read", () -> made.read(part, many), () -> naive.read(part, many));
                compareAll();
            } else if (what < 58) {
                cuts();
            } else if (what < 80) {
                askView();
            } else {
                askElse();
            }
        }
    }

    private void addView() {
        char kind = rarely() ? 'q' : "tlsjv".charAt(below(5));
        char measure = rarely() ? 'q' : "csxbm".charAt(below(5));
        char filter = rarely() ? 'q' : "aaaep".charAt(below(5));
        int size = pick(1, sizes);
        int step = Math.max(1, size - below(Math.max(1, Math.min(size, 200))));
        int used = kind == 'l' ? pick(step, step) : pick(1, 200);
        int grace = pick(0, graces - 1);
        compare("addView", () -> made.addView(kind, measure, filter, size, used, grace),
                () -> naive.addView(kind, measure, filter, size, used, grace));
    }

    private void put() {
        int part = pick(0, 2);
        int drift = Math.min(times - 1, calls * times / 300);
        int time = rarely() ? pick(0, 999) : start + Math.max(0, Math.min(times - 1,
                below(3) == 0 ? below(times) : drift - below(Math.max(1, times / 4))));
        if (below(7) == 0) {
            compare("putMark", () -> made.putMark(part, time), () -> naive.putMark(part, time));
        } else {
            int key = rarely() ? pick(0, 7) : below(keys);
            int value = below(4) == 0 ? pick(-99, 99) : pick(-3, 3);
            compare("putRow", () -> made.putRow(part, key, time, value), () -> naive.putRow(part, key, time, value));
        }
    }

    private void compareAll() {
        for (int v = 0; v < 5 && calls < CALLS; v++) {
            int view = v;
            if (below(4) == 0) {
                compare("told", () -> made.told(view), () -> naive.told(view));
                compare("held", () -> made.held(view), () -> naive.held(view));
                compare("dropped", () -> made.dropped(view), () -> naive.dropped(view));
            }
        }
        // What waits is compared whole, beyond the 512 calls, and told as one.
        int waiting = naive.waiting();
        compare("waiting", () -> made.waiting(), () -> naive.waiting());
        for (int o = 0; o < waiting; o++) {
            int output = o;
            for (int w = 0; w < 6; w++) {
                int what = w;
                compare("waitingAt", () -> made.waitingAt(output, what), () -> naive.waitingAt(output, what));
                calls--;
            }
        }
    }

    private void cuts() {
        int what = below(4);
        if (what <= 1) {
            compare("cut", () -> made.cut(), () -> naive.cut());
        } else if (what == 2) {
            compare("complete", () -> made.complete(), () -> naive.complete());
        } else {
            compare("crash", () -> made.crash(), () -> naive.crash());
        }
    }

    private void askView() {
        int view = pick(0, 4);
        int key = rarely() ? pick(0, 7) : below(keys);
        int from = start + below(times);
        int to = from + below(sizes + 1);
        List<NaiveFoundry.Told> told = answerOf(() -> naive.told(view)) instanceof Integer ? naive.toldOf(view) : List.of();
        NaiveFoundry.Told some = told.isEmpty() || below(10) == 0 ? new NaiveFoundry.Told(key, from, to, 0)
                : told.get(below(told.size()));
        int divisor = rarely() ? 0 : new int[] {below(40) - 20, (int) (state >>> 20), 1, Integer.MIN_VALUE}[below(4)];
        switch (below(8)) {
            case 0, 1 -> compare("valueOf", () -> made.valueOf(view, some.key, some.from, some.to),
                    () -> naive.valueOf(view, some.key, some.from, some.to));
            case 2, 3 -> compare("valueByAll", () -> made.valueByAll(view, some.key, some.from, some.to),
                    () -> naive.valueByAll(view, some.key, some.from, some.to));
            case 4 -> compare("firstFrom", () -> made.firstFrom(view, some.key), () -> naive.firstFrom(view, some.key));
            case 5 -> compare("meanOf", () -> made.meanOf(view, some.key), () -> naive.meanOf(view, some.key));
            case 6 -> compare("rest", () -> made.rest(view, some.key, divisor), () -> naive.rest(view, some.key, divisor));
            default -> compare("promisedSum", () -> made.promisedSum(view), () -> naive.promisedSum(view));
        }
    }

    private void askElse() {
        int part = pick(0, 2);
        int key = pick(0, 7);
        int output = naive.promised() == 0 ? below(3) - 1 : pick(0, naive.promised() - 1);
        int waits = naive.waiting() == 0 ? below(3) - 1 : pick(0, naive.waiting() - 1);
        int what = pick(0, 5);
        int slack = pick(0, 99);
        switch (below(16)) {
            case 0 -> compare("entries", () -> made.entries(part), () -> naive.entries(part));
            case 1 -> compare("place", () -> made.place(part), () -> naive.place(part));
            case 2 -> compare("markOf", () -> made.markOf(part), () -> naive.markOf(part));
            case 3 -> compare("mark", () -> made.mark(), () -> naive.mark());
            case 4 -> compare("promised", () -> made.promised(), () -> naive.promised());
            case 5, 6 -> compare("outputAt", () -> made.outputAt(output, what), () -> naive.outputAt(output, what));
            case 7 -> compare("waitingAt", () -> made.waitingAt(waits, what), () -> naive.waitingAt(waits, what));
            case 8 -> compare("moveKey", () -> made.moveKey(key, part), () -> naive.moveKey(key, part));
            case 9 -> compare("workerOf", () -> made.workerOf(key), () -> naive.workerOf(key));
            case 10 -> compare("load", () -> made.load(part), () -> naive.load(part));
            case 11 -> compare("droppedShare", () -> made.droppedShare(), () -> naive.droppedShare());
            case 12, 13 -> compare("isSound", () -> made.isSound(), () -> naive.isSound());
            case 14 -> compare("setSlack", () -> made.setSlack(part, slack), () -> naive.setSlack(part, slack));
            default -> addView();
        }
    }
}
