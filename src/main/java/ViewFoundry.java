import java.util.ArrayList;
import java.util.Arrays;
import java.util.NoSuchElementException;

/**
 * A foundry of views over streams.
 *
 * <p>All that is read is kept in a journal, in the order of reading. What the views hold and tell depends on the
 * journal alone, so a cut needs to remember only how long the journal was, and a crash goes through it anew.
 */
public final class ViewFoundry {
    private static final int PARTS = 3;
    private static final int RIGHT_PART = 2;
    private static final int LOG_LIMIT = 80;
    private static final int LEFT_ROWS = 160;
    private static final int ALL_ENTRIES = 240;
    private static final int KEYS = 8;
    private static final int TIMES = 1000;
    private static final int VALUE_LIMIT = 99;
    private static final int SLACK_LIMIT = 99;
    private static final int VIEW_LIMIT = 5;
    private static final int SIZE_LIMIT = 200;
    private static final int GRACE_LIMIT = 200;
    private static final int READ_LIMIT = 20;
    private static final int WORKERS = 3;
    private static final int NO_MARK = -1;
    private static final int SIGN_BIT = 1 << 31;
    private static final int NO_VERSION = -1;

    private final ArrayList<Part> parts = new ArrayList<>();
    private final ArrayList<View> views = new ArrayList<>();
    private final ArrayList<Entry> journal = new ArrayList<>();
    private final Outputs outputs = new Outputs();
    private final int[] workers = new int[KEYS];
    private final int[] promisedSums = new int[VIEW_LIMIT];
    private boolean everRead;
    private boolean everCut;
    private boolean cutOpen;
    private int promisedOutputs;
    private int cutOutputs;
    private int promisedReads;
    private int cutReads;

    public ViewFoundry() {
        for (int part = 0; part < PARTS; part++) {
            parts.add(new Part());
        }
        for (int key = 0; key < workers.length; key++) {
            workers[key] = key % WORKERS;
        }
    }

    // Logs and views.

    public int putRow(int part, int key, int time, int value)
            throws IllegalArgumentException, IllegalStateException {
        Part to = partOf(part);
        needKey(key);
        needTime(time);
        if (value < -VALUE_LIMIT || value > VALUE_LIMIT) {
            throw new IllegalArgumentException("the value is out of range");
        }
        return append(to, new Entry(part, true, key, time, value));
    }

    public int putMark(int part, int time) throws IllegalArgumentException, IllegalStateException {
        Part to = partOf(part);
        needTime(time);
        return append(to, new Entry(part, false, 0, time, 0));
    }

    public int setSlack(int part, int slack) throws IllegalArgumentException, IllegalStateException {
        Part of = partOf(part);
        if (slack < 0 || slack > SLACK_LIMIT) {
            throw new IllegalArgumentException("the slack is out of range");
        }
        if (!views.isEmpty()) {
            throw new IllegalStateException("there are views");
        }
        int before = of.slack;
        of.slack = slack;
        return before;
    }

    public int addView(char kind, char measure, char filter, int size, int step, int grace)
            throws IllegalArgumentException, IllegalStateException {
        if (!isKind(kind) || !isMeasure(measure) || !isFilter(filter)) {
            throw new IllegalArgumentException("no such kind, measure or filter");
        }
        if (size < 1 || size > SIZE_LIMIT || grace < 0 || grace > GRACE_LIMIT) {
            throw new IllegalArgumentException("the size or the grace is out of range");
        }
        if (kind == 'l' && (step < 1 || step > size)) {
            throw new IllegalArgumentException("the step is out of range");
        }
        if (views.size() >= VIEW_LIMIT || everRead || everCut) {
            throw new IllegalStateException("no view can be added any more");
        }
        int number = views.size();
        if (kind == 't') {
            views.add(new WindowView(number, measure, filter, size, size, grace, outputs));
        } else if (kind == 'l') {
            views.add(new WindowView(number, measure, filter, size, step, grace, outputs));
        } else if (kind == 's') {
            views.add(new SessionView(number, measure, filter, size, grace, outputs));
        } else if (kind == 'j') {
            views.add(new JoinView(number, filter, size, grace, outputs));
        } else {
            views.add(new VersionView(number, filter, size, grace, outputs));
        }
        return number;
    }

    public int entries(int part) throws IllegalArgumentException {
        return partOf(part).log.size();
    }

    // Reading.

    public int read(int part, int many) throws IllegalArgumentException {
        Part from = partOf(part);
        if (many < 1 || many > READ_LIMIT) {
            throw new IllegalArgumentException("the number is out of range");
        }
        int done = 0;
        while (done < many && from.place >= 0 && from.place < from.log.size()) {
            Entry entry = from.log.get(from.place);
            // What an entry does is fixed here, for a crash to repeat it even if the slack has changed since.
            entry.order = journal.size();
            entry.ahead = leastMark();
            entry.bid = entry.isRow ? entry.time - from.slack : entry.time;
            journal.add(entry);
            everRead = true;
            apply(entry);
            done++;
        }
        return done;
    }

    public int place(int part) throws IllegalArgumentException {
        return partOf(part).place;
    }

    public int markOf(int part) throws IllegalArgumentException {
        return partOf(part).mark;
    }

    public int mark() {
        return leastMark();
    }

    // Views.

    public int told(int view) throws IndexOutOfBoundsException {
        return viewOf(view).told.filled;
    }

    public int valueOf(int view, int key, int from, int to)
            throws IndexOutOfBoundsException, NoSuchElementException {
        Results told = viewOf(view).told;
        if (!told.contains(key, from, to)) {
            throw new NoSuchElementException("no such result is told");
        }
        return told.sumOf(key, from, to);
    }

    public int valueByAll(int view, int key, int from, int to)
            throws IndexOutOfBoundsException, NoSuchElementException {
        View of = viewOf(view);
        of.findAgain(journal, leastMark());
        if (!of.found.contains(key, from, to)) {
            throw new NoSuchElementException("no such result is found");
        }
        return of.found.sumOf(key, from, to);
    }

    public int firstFrom(int view, int key) throws IndexOutOfBoundsException, NoSuchElementException {
        Results told = viewOf(view).told;
        if (told.countOf(key) == 0) {
            throw new NoSuchElementException("nothing is told of the key");
        }
        return told.leastFromOf(key);
    }

    public int dropped(int view) throws IndexOutOfBoundsException {
        return viewOf(view).drops;
    }

    public int held(int view) throws IndexOutOfBoundsException {
        return viewOf(view).heldInAll();
    }

    // Outputs, cuts, crashes.

    public int waiting() {
        return outputs.size - waitingFrom();
    }

    public int cut() throws IllegalStateException {
        if (cutOpen) {
            throw new IllegalStateException("a cut is open");
        }
        cutOpen = true;
        everCut = true;
        cutOutputs = outputs.size;
        cutReads = journal.size();
        return cutOutputs - promisedOutputs;
    }

    public int complete() throws IllegalStateException {
        if (!cutOpen) {
            throw new IllegalStateException("no cut is open");
        }
        cutOpen = false;
        countPromised(promisedOutputs, cutOutputs);
        promisedOutputs = cutOutputs;
        promisedReads = cutReads;
        return promisedOutputs;
    }

    public int crash() {
        int lost = outputs.size - promisedOutputs;
        cutOpen = false;
        if (journal.size() > promisedReads) {
            emptyBehind(promisedReads);
            // The same reads make the same outputs, so the promised ones come to stand where they stood.
            for (int i = 0; i < journal.size(); i++) {
                apply(journal.get(i));
            }
        }
        return lost;
    }

    public int promised() {
        return promisedOutputs;
    }

    public int outputAt(int output, int what) throws IndexOutOfBoundsException, IllegalArgumentException {
        if (output < 0 || output >= promisedOutputs) {
            throw new IndexOutOfBoundsException("no such output");
        }
        return detailAt(output, what);
    }

    public int waitingAt(int output, int what) throws IndexOutOfBoundsException, IllegalArgumentException {
        int start = waitingFrom();
        if (output < 0 || output >= outputs.size - start) {
            throw new IndexOutOfBoundsException("no such output");
        }
        return detailAt(start + output, what);
    }

    public int promisedSum(int view) throws IndexOutOfBoundsException {
        if (view < 0 || view >= views.size() || view >= promisedSums.length) {
            throw new IndexOutOfBoundsException("no such view");
        }
        return promisedSums[view];
    }

    // Workers.

    public int moveKey(int key, int worker) throws IllegalArgumentException {
        needKey(key);
        needWorker(worker);
        workers[key] = worker;
        return heldOfKey(key);
    }

    public int workerOf(int key) throws IllegalArgumentException {
        needKey(key);
        return workers[key];
    }

    public int load(int worker) throws IllegalArgumentException {
        needWorker(worker);
        int sum = 0;
        for (int key = 0; key < workers.length; key++) {
            if (workers[key] == worker) {
                sum += heldOfKey(key);
            }
        }
        return sum;
    }

    // Figures.

    public float meanOf(int view, int key) throws IndexOutOfBoundsException, NoSuchElementException {
        Results told = viewOf(view).told;
        int number = told.countOf(key);
        if (number <= 0) {
            throw new NoSuchElementException("nothing is told of the key");
        }
        double mean = (double) told.totalOf(key) / (double) number;
        long whole = (long) mean;
        // A cast rounds towards zero, so it lies one too high below zero.
        double down = (double) whole > mean ? (double) (whole - 1) : (double) whole;
        return (float) down;
    }

    public int rest(int view, int key, int divisor)
            throws IndexOutOfBoundsException, NoSuchElementException, IllegalArgumentException {
        float mean = meanOf(view, key);
        if (divisor == 0) {
            throw new IllegalArgumentException("the divisor is 0");
        }
        // Counted in quarters, both are whole numbers, and the rest of whole numbers is the exact one that % has.
        long quarters = Math.abs((long) mean) * 4;
        long parting = Math.abs((long) (float) divisor);
        long left = parting > 0 ? quarters % parting : 0;
        int bits = Tally.bitsOf((float) left / 4f);
        // The rest has the sign of the mean, that of a negative zero too.
        return mean < 0f ? bits | SIGN_BIT : bits;
    }

    public double droppedShare() throws NoSuchElementException {
        int rows = 0;
        for (int i = 0; i < journal.size(); i++) {
            if (journal.get(i).isRow) {
                rows++;
            }
        }
        if (rows <= 0) {
            throw new NoSuchElementException("no row was read");
        }
        int drops = 0;
        for (int i = 0; i < views.size(); i++) {
            drops += views.get(i).drops;
        }
        return (double) drops / (double) rows;
    }

    public boolean isSound() {
        int mark = leastMark();
        boolean sound = true;
        for (int i = 0; i < views.size() && sound; i++) {
            View view = views.get(i);
            view.findAgain(journal, mark);
            sound = view.found.isSameAs(view.told);
        }
        return sound;
    }

    // What the calls share.

    private Part partOf(int part) {
        if (part < 0 || part >= parts.size()) {
            throw new IllegalArgumentException("no such part");
        }
        return parts.get(part);
    }

    private View viewOf(int view) {
        if (view < 0 || view >= views.size()) {
            throw new IndexOutOfBoundsException("no such view");
        }
        return views.get(view);
    }

    private void needKey(int key) {
        if (key < 0 || key >= workers.length) {
            throw new IllegalArgumentException("no such key");
        }
    }

    private void needTime(int time) {
        if (time < 0 || time >= TIMES) {
            throw new IllegalArgumentException("the time is out of range");
        }
    }

    private void needWorker(int worker) {
        if (worker < 0 || worker >= WORKERS) {
            throw new IllegalArgumentException("no such worker");
        }
    }

    private static boolean isKind(char kind) {
        return kind == 't' || kind == 'l' || kind == 's' || kind == 'j' || kind == 'v';
    }

    private static boolean isMeasure(char measure) {
        return measure == 'c' || measure == 's' || measure == 'x' || measure == 'b' || measure == 'm';
    }

    private static boolean isFilter(char filter) {
        return filter == 'a' || filter == 'e' || filter == 'p';
    }

    private int append(Part to, Entry entry) {
        if (to.log.size() >= LOG_LIMIT) {
            throw new IllegalStateException("the log is full");
        }
        to.log.add(entry);
        return to.log.size() - 1;
    }

    private int leastMark() {
        int least = TIMES;
        for (int i = 0; i < parts.size(); i++) {
            least = Math.min(least, parts.get(i).mark);
        }
        return least;
    }

    private void apply(Entry entry) {
        for (int i = 0; i < views.size(); i++) {
            View view = views.get(i);
            if (view.letsIn(entry)) {
                view.take(entry);
            }
        }
        Part part = partOf(entry.part);
        part.place++;
        part.mark = Math.max(part.mark, entry.bid);
        int mark = leastMark();
        if (mark > entry.ahead) {
            for (int i = 0; i < views.size(); i++) {
                View view = views.get(i);
                view.tellDue(entry.ahead, mark);
                view.letGo(entry.ahead, mark);
            }
        }
    }

    private void emptyBehind(int reads) {
        for (int i = journal.size() - 1; i >= reads && i >= 0; i--) {
            journal.remove(i);
        }
        for (int i = 0; i < parts.size(); i++) {
            Part part = parts.get(i);
            part.place = 0;
            part.mark = NO_MARK;
        }
        for (int i = 0; i < views.size(); i++) {
            views.get(i).beginAnew();
        }
        outputs.size = 0;
    }

    private int waitingFrom() {
        return cutOpen ? cutOutputs : promisedOutputs;
    }

    private void countPromised(int start, int end) {
        for (int i = start; i < end; i++) {
            long output = outputs.at(i);
            int view = Result.viewIn(output);
            if (view >= 0 && view < promisedSums.length) {
                promisedSums[view] += Result.signIn(output);
            }
        }
    }

    private int detailAt(int position, int what) {
        if (what < 0 || what > 5) {
            throw new IllegalArgumentException("nothing of that is in an output");
        }
        return Result.detail(outputs.at(position), what);
    }

    private int heldOfKey(int key) {
        int sum = 0;
        for (int i = 0; i < views.size(); i++) {
            sum += views.get(i).heldOf(key);
        }
        return sum;
    }

    /** A part: its log, how far it was read, and its mark. */
    private static final class Part {
        final ArrayList<Entry> log = new ArrayList<>();
        int place = 0;
        int mark = NO_MARK;
        int slack = 0;
    }

    /** An entry of a log, a row or a mark, with what was found when it was read. */
    private static final class Entry {
        final int part;
        final boolean isRow;
        final boolean isLeft;
        final int key;
        final int time;
        final int value;
        int order;
        int ahead;
        int bid;

        Entry(int part, boolean isRow, int key, int time, int value) {
            this.part = part;
            this.isRow = isRow;
            isLeft = part != RIGHT_PART;
            this.key = key;
            this.time = time;
            this.value = value;
        }

        boolean isPartnerOf(Entry other, int size) {
            return isLeft != other.isLeft && key == other.key && Math.abs(time - other.time) <= size;
        }
    }

    /**
     * A result, or an output of it, in one number: many are kept, and so each takes one element alone. From the
     * lowest bit on: the value in 32 bits, 1 more than the to in 11, the from in 10, the key in 3, the view in 3,
     * a bit that no result lacks, and a bit for outputs that take back.
     */
    private static final class Result {
        static final long NONE = 0L;
        static final long PRESENT = 1L << 59;
        static final long BACK = 1L << 60;

        static long of(int view, int key, int from, int to, int value) {
            return PRESENT | (long) (view & 7) << 56 | (long) (key & 7) << 53 | (long) (from & 1023) << 43
                    | (long) (to + 1 & 2047) << 32 | (long) value & 0xFFFFFFFFL;
        }

        static int viewIn(long result) {
            return (int) (result >>> 56) & 7;
        }

        static int keyIn(long result) {
            return (int) (result >>> 53) & 7;
        }

        static int fromIn(long result) {
            return (int) (result >>> 43) & 1023;
        }

        static int toIn(long result) {
            return ((int) (result >>> 32) & 2047) - 1;
        }

        static int valueIn(long result) {
            return (int) result;
        }

        static int signIn(long output) {
            return (output & BACK) == 0L ? 1 : -1;
        }

        static int detail(long output, int what) {
            switch (what) {
                case 0:
                    return viewIn(output);
                case 1:
                    return keyIn(output);
                case 2:
                    return fromIn(output);
                case 3:
                    return toIn(output);
                case 4:
                    return valueIn(output);
                default:
                    return signIn(output);
            }
        }
    }

    /** Results, each in a slot that belongs to what it is told for. */
    private static final class Results {
        final long[] slots;
        int filled = 0;

        Results(int many) {
            slots = new long[Math.max(many, 1)];
        }

        long at(int slot) {
            return slot >= 0 && slot < slots.length ? slots[slot] : Result.NONE;
        }

        void put(int slot, long result) {
            if (slot >= 0 && slot < slots.length) {
                filled += slots[slot] == Result.NONE ? 1 : 0;
                slots[slot] = result;
            }
        }

        void clear(int slot) {
            if (slot >= 0 && slot < slots.length) {
                filled -= slots[slot] == Result.NONE ? 0 : 1;
                slots[slot] = Result.NONE;
            }
        }

        void clearAll() {
            Arrays.fill(slots, Result.NONE);
            filled = 0;
        }

        boolean contains(int key, int from, int to) {
            boolean seen = false;
            for (int i = 0; i < slots.length && !seen; i++) {
                seen = isOf(slots[i], key, from, to);
            }
            return seen;
        }

        int sumOf(int key, int from, int to) {
            int sum = 0;
            for (int i = 0; i < slots.length; i++) {
                if (isOf(slots[i], key, from, to)) {
                    sum += Result.valueIn(slots[i]);
                }
            }
            return sum;
        }

        int countOf(int key) {
            int count = 0;
            for (int i = 0; i < slots.length; i++) {
                if (hasKey(slots[i], key)) {
                    count++;
                }
            }
            return count;
        }

        long totalOf(int key) {
            long sum = 0L;
            for (int i = 0; i < slots.length; i++) {
                if (hasKey(slots[i], key)) {
                    sum += Result.valueIn(slots[i]);
                }
            }
            return sum;
        }

        int leastFromOf(int key) {
            int least = TIMES;
            for (int i = 0; i < slots.length; i++) {
                if (hasKey(slots[i], key)) {
                    least = Math.min(least, Result.fromIn(slots[i]));
                }
            }
            return least;
        }

        boolean isSameAs(Results other) {
            boolean same = filled == other.filled && slots.length == other.slots.length;
            for (int i = 0; i < slots.length && same; i++) {
                same = slots[i] == other.at(i);
            }
            return same;
        }

        static boolean hasKey(long result, int key) {
            return result != Result.NONE && Result.keyIn(result) == key;
        }

        static boolean isOf(long result, int key, int from, int to) {
            return hasKey(result, key) && Result.fromIn(result) == from && Result.toIn(result) == to;
        }
    }

    /** All outputs that were made and not lost, in their order. */
    private static final class Outputs {
        // Windows make most: two outputs for each of a left row's 200 windows, in each of the views.
        static final int LIMIT = VIEW_LIMIT * LEFT_ROWS * SIZE_LIMIT * 2;
        long[] list = new long[64];
        int size = 0;

        void add(long output) {
            if (size >= list.length && size < LIMIT) {
                list = Arrays.copyOf(list, Math.min(list.length * 2, LIMIT));
            }
            if (size >= 0 && size < list.length) {
                list[size] = output;
                size++;
            }
        }

        long at(int position) {
            return position >= 0 && position < list.length ? list[position] : Result.NONE;
        }
    }

    /** What the measures need to know of the rows of many windows or sessions, each with its own cell. */
    private static final class Tally {
        static final int EXPONENT_OF_ONE = 127;
        static final int FRACTION_BITS = 23;
        static final int EXPONENTS = 256;
        final int[] numbers;
        final int[] sums;
        final int[] greatest;

        Tally(int cells) {
            int many = Math.max(cells, 1);
            numbers = new int[many];
            sums = new int[many];
            greatest = new int[many];
        }

        boolean isCell(int cell) {
            return cell >= 0 && cell < numbers.length && cell < sums.length && cell < greatest.length;
        }

        boolean hasRows(int cell) {
            return isCell(cell) && numbers[cell] > 0;
        }

        void add(int cell, int value) {
            if (isCell(cell)) {
                greatest[cell] = numbers[cell] == 0 ? value : Math.max(greatest[cell], value);
                numbers[cell]++;
                sums[cell] += value;
            }
        }

        void addAll(int cell, int other) {
            if (isCell(cell) && hasRows(other)) {
                greatest[cell] = numbers[cell] == 0 ? greatest[other] : Math.max(greatest[cell], greatest[other]);
                numbers[cell] += numbers[other];
                sums[cell] += sums[other];
            }
        }

        void clear(int cell) {
            if (isCell(cell)) {
                numbers[cell] = 0;
                sums[cell] = 0;
                greatest[cell] = 0;
            }
        }

        void clearAll() {
            Arrays.fill(numbers, 0);
            Arrays.fill(sums, 0);
            Arrays.fill(greatest, 0);
        }

        int measured(int cell, char measure) {
            if (!isCell(cell) || numbers[cell] <= 0) {
                return 0;
            }
            if (measure == 'c') {
                return numbers[cell];
            }
            if (measure == 's') {
                return sums[cell];
            }
            if (measure == 'x') {
                return greatest[cell];
            }
            if (measure == 'b') {
                return (byte) sums[cell];
            }
            return bitsOf((float) sums[cell] / (float) numbers[cell]);
        }

        /** The bits of a float that is 0, or neither very small nor very great; those of 0 are the positive zero's. */
        static int bitsOf(float figure) {
            if (figure == 0f) {
                return 0;
            }
            int sign = figure < 0f ? SIGN_BIT : 0;
            float scaled = figure < 0f ? -figure : figure;
            int exponent = EXPONENT_OF_ONE;
            for (int i = 0; i < EXPONENTS && scaled >= 2f; i++) {
                scaled = scaled / 2f;
                exponent++;
            }
            for (int i = 0; i < EXPONENTS && scaled < 1f; i++) {
                scaled = scaled * 2f;
                exponent--;
            }
            int fraction = (int) ((scaled - 1f) * (float) (1 << FRACTION_BITS));
            return sign | exponent << FRACTION_BITS | fraction;
        }
    }

    /** A view: what it lets in, what it tells, and how much it holds. */
    private abstract static class View {
        final int number;
        final boolean bothSides;
        final char filter;
        final int size;
        final int grace;
        final Outputs outputs;
        final Results told;
        final Results found;
        final int[] holdings = new int[KEYS];
        int drops = 0;

        View(int number, boolean bothSides, char filter, int size, int grace, Outputs outputs, int slots) {
            this.number = number;
            this.bothSides = bothSides;
            this.filter = filter;
            this.size = size;
            this.grace = grace;
            this.outputs = outputs;
            told = new Results(slots);
            found = new Results(slots);
        }

        /** Takes a row that was let in. */
        abstract void take(Entry row);

        /** Tells what is due now that the mark has risen. */
        abstract void tellDue(int before, int mark);

        /** Lets go what need not be kept now that the mark has risen. */
        abstract void letGo(int before, int mark);

        /** Finds all results from the rows alone, each in the slot in which it would be told. */
        abstract void find(ArrayList<Entry> journal, int mark);

        /** Empties what only this kind of view has. */
        abstract void emptyOwn();

        final boolean letsIn(Entry entry) {
            if (!entry.isRow || !entry.isLeft && !bothSides) {
                return false;
            }
            if (filter == 'e') {
                return (entry.value & 1) == 0;
            }
            return filter != 'p' || entry.value > 0;
        }

        final void beginAnew() {
            told.clearAll();
            Arrays.fill(holdings, 0);
            drops = 0;
            emptyOwn();
        }

        final void findAgain(ArrayList<Entry> journal, int mark) {
            found.clearAll();
            find(journal, mark);
        }

        final void tell(int slot, long result) {
            told.put(slot, result);
            outputs.add(result);
        }

        final void takeBack(int slot) {
            long result = told.at(slot);
            if (result != Result.NONE) {
                told.clear(slot);
                outputs.add(result | Result.BACK);
            }
        }

        final void tellAnew(int slotBefore, int slot, long result) {
            if (told.at(slotBefore) != result) {
                takeBack(slotBefore);
                tell(slot, result);
            }
        }

        final void hold(int key, int more) {
            if (key >= 0 && key < holdings.length) {
                holdings[key] += more;
            }
        }

        final int heldOf(int key) {
            return key >= 0 && key < holdings.length ? holdings[key] : 0;
        }

        final int heldInAll() {
            int sum = 0;
            for (int key = 0; key < holdings.length; key++) {
                sum += holdings[key];
            }
            return sum;
        }

        /** Whether sessions and joins drop the row. */
        final boolean isTooLate(Entry row) {
            return row.ahead >= row.time + size + 1 + grace;
        }
    }

    /** Windows that tumble or slide. Their slots rise with their beginnings, then with their keys. */
    private static final class WindowView extends View {
        final char measure;
        final int step;
        final int windows;
        final Tally rows;
        final Tally again;

        WindowView(int number, char measure, char filter, int size, int step, int grace, Outputs outputs) {
            super(number, false, filter, size, grace, outputs, windowsBy(step) * KEYS);
            this.measure = measure;
            this.step = step;
            windows = windowsBy(step);
            rows = new Tally(windows * KEYS);
            again = new Tally(windows * KEYS);
        }

        static int windowsBy(int step) {
            return step > 0 ? (TIMES - 1) / step + 1 : 1;
        }

        int endOf(int window) {
            return window * step + size;
        }

        int firstEndingAfter(int time) {
            return time < size || step <= 0 ? 0 : (time - size) / step + 1;
        }

        int lastBeginningBy(int time) {
            return step > 0 ? time / step : 0;
        }

        boolean isTooLateFor(int window, Entry row) {
            return row.ahead >= endOf(window) + grace;
        }

        long resultOf(int window, int key, Tally tally) {
            int value = tally.measured(window * KEYS + key, measure);
            return Result.of(number, key, window * step, endOf(window), value);
        }

        void take(Entry row) {
            int last = lastBeginningBy(row.time);
            for (int window = firstEndingAfter(row.time); window <= last; window++) {
                if (isTooLateFor(window, row)) {
                    drops++;
                } else {
                    takeInto(window, row);
                }
            }
        }

        void takeInto(int window, Entry row) {
            int slot = window * KEYS + row.key;
            if (!rows.hasRows(slot)) {
                hold(row.key, 1);
            }
            rows.add(slot, row.value);
            if (row.ahead >= endOf(window)) {
                tellAnew(slot, slot, resultOf(window, row.key, rows));
            }
        }

        void tellDue(int before, int mark) {
            for (int window = firstEndingAfter(before); window < windows && endOf(window) <= mark; window++) {
                for (int key = 0; key < KEYS; key++) {
                    int slot = window * KEYS + key;
                    if (rows.hasRows(slot)) {
                        tellAnew(slot, slot, resultOf(window, key, rows));
                    }
                }
            }
        }

        void letGo(int before, int mark) {
            int first = firstEndingAfter(before - grace);
            for (int window = first; window < windows && endOf(window) + grace <= mark; window++) {
                for (int key = 0; key < KEYS; key++) {
                    if (rows.hasRows(window * KEYS + key)) {
                        hold(key, -1);
                    }
                }
            }
        }

        void find(ArrayList<Entry> journal, int mark) {
            again.clearAll();
            for (int i = 0; i < journal.size(); i++) {
                Entry row = journal.get(i);
                if (letsIn(row)) {
                    addAgain(row);
                }
            }
            for (int window = 0; window < windows && endOf(window) <= mark; window++) {
                for (int key = 0; key < KEYS; key++) {
                    int slot = window * KEYS + key;
                    if (again.hasRows(slot)) {
                        found.put(slot, resultOf(window, key, again));
                    }
                }
            }
        }

        void addAgain(Entry row) {
            int last = lastBeginningBy(row.time);
            for (int window = firstEndingAfter(row.time); window <= last; window++) {
                if (!isTooLateFor(window, row)) {
                    again.add(window * KEYS + row.key, row.value);
                }
            }
        }

        void emptyOwn() {
            rows.clearAll();
        }
    }

    /** Sessions. Their slots rise with their last times, then with their keys. */
    private static final class SessionView extends View {
        static final int SLOTS = TIMES * KEYS;
        // A cell behind those of all sessions, in which a new one is put together.
        static final int SPARE = SLOTS;
        final char measure;
        final Tally sessions = new Tally(SLOTS + 1);
        final Tally again = new Tally(SLOTS);
        final int[] firsts = new int[SLOTS];
        // Sessions of a key lie more than the size apart, so that no row reaches three.
        final int[] joined = new int[2];

        SessionView(int number, char measure, char filter, int size, int grace, Outputs outputs) {
            super(number, false, filter, size, grace, outputs, SLOTS);
            this.measure = measure;
        }

        static int slotOf(int last, int key) {
            return last * KEYS + key;
        }

        static int lastOf(int slot) {
            return slot / KEYS;
        }

        int firstOf(int slot) {
            return slot >= 0 && slot < firsts.length ? firsts[slot] : 0;
        }

        boolean isReached(int slot, int time) {
            return sessions.hasRows(slot) && firstOf(slot) - size <= time && lastOf(slot) + size >= time;
        }

        long resultOf(int slot) {
            int key = slot % KEYS;
            return Result.of(number, key, firstOf(slot), lastOf(slot), sessions.measured(slot, measure));
        }

        void take(Entry row) {
            if (isTooLate(row)) {
                drops++;
                return;
            }
            int many = lookForJoined(row);
            int slot = join(row, many);
            hold(row.key, 1 - many);
            tellJoined(row, many, slot);
        }

        int lookForJoined(Entry row) {
            int many = 0;
            for (int last = Math.max(0, row.time - size); last < TIMES && many < joined.length; last++) {
                int slot = slotOf(last, row.key);
                if (isReached(slot, row.time)) {
                    joined[many] = slot;
                    many++;
                }
            }
            return many;
        }

        int join(Entry row, int many) {
            int first = row.time;
            int last = row.time;
            sessions.clear(SPARE);
            sessions.add(SPARE, row.value);
            for (int i = 0; i < many && i < joined.length; i++) {
                first = Math.min(first, firstOf(joined[i]));
                last = Math.max(last, lastOf(joined[i]));
                sessions.addAll(SPARE, joined[i]);
                sessions.clear(joined[i]);
            }
            int slot = slotOf(last, row.key);
            sessions.addAll(slot, SPARE);
            if (slot >= 0 && slot < firsts.length) {
                firsts[slot] = first;
            }
            return slot;
        }

        void tellJoined(Entry row, int many, int slot) {
            boolean due = row.ahead > lastOf(slot) + size;
            if (many == 1 && due && told.at(joined[0]) != Result.NONE) {
                tellAnew(joined[0], slot, resultOf(slot));
                return;
            }
            for (int i = 0; i < many && i < joined.length; i++) {
                takeBack(joined[i]);
            }
            if (due) {
                tell(slot, resultOf(slot));
            }
        }

        void tellDue(int before, int mark) {
            for (int last = Math.max(0, before - size); last < TIMES && last < mark - size; last++) {
                for (int key = 0; key < KEYS; key++) {
                    int slot = slotOf(last, key);
                    if (sessions.hasRows(slot)) {
                        tellAnew(slot, slot, resultOf(slot));
                    }
                }
            }
        }

        void letGo(int before, int mark) {
            int stay = 2 * size + grace;
            for (int last = Math.max(0, before - stay); last < TIMES && last < mark - stay; last++) {
                for (int key = 0; key < KEYS; key++) {
                    int slot = slotOf(last, key);
                    if (sessions.hasRows(slot)) {
                        sessions.clear(slot);
                        hold(key, -1);
                    }
                }
            }
        }

        void find(ArrayList<Entry> journal, int mark) {
            again.clearAll();
            for (int i = 0; i < journal.size(); i++) {
                Entry row = journal.get(i);
                if (letsIn(row) && !isTooLate(row)) {
                    again.add(slotOf(row.time, row.key), row.value);
                }
            }
            for (int key = 0; key < KEYS; key++) {
                findOf(key, mark);
            }
        }

        /** Walks over the times of a key; the cell of the last one so far holds the rows of its session. */
        void findOf(int key, int mark) {
            int first = 0;
            int last = -1;
            for (int time = 0; time < TIMES; time++) {
                int slot = slotOf(time, key);
                if (again.hasRows(slot)) {
                    if (last >= 0 && time - last <= size) {
                        again.addAll(slot, slotOf(last, key));
                    } else {
                        findOne(key, first, last, mark);
                        first = time;
                    }
                    last = time;
                }
            }
            findOne(key, first, last, mark);
        }

        void findOne(int key, int first, int last, int mark) {
            if (last >= 0 && mark > last + size) {
                int slot = slotOf(last, key);
                found.put(slot, Result.of(number, key, first, last, again.measured(slot, measure)));
            }
        }

        void emptyOwn() {
            sessions.clearAll();
        }
    }

    /** Joins by time. Their slots are numbered as they are told, as none is ever taken back. */
    private static final class JoinView extends View {
        final ArrayList<Entry> kept = new ArrayList<>();

        JoinView(int number, char filter, int size, int grace, Outputs outputs) {
            super(number, true, filter, size, grace, outputs, LEFT_ROWS * LOG_LIMIT);
        }

        long resultOf(Entry one, Entry other) {
            Entry left = one.isLeft ? one : other;
            Entry right = one.isLeft ? other : one;
            return Result.of(number, one.key, left.time, right.time, left.value + right.value);
        }

        void take(Entry row) {
            if (isTooLate(row)) {
                drops++;
                return;
            }
            for (int i = 0; i < kept.size(); i++) {
                Entry other = kept.get(i);
                if (row.isPartnerOf(other, size)) {
                    tell(told.filled, resultOf(row, other));
                }
            }
            kept.add(row);
            hold(row.key, 1);
        }

        void tellDue(int before, int mark) {
            // Joins are told as their rows come.
        }

        void letGo(int before, int mark) {
            for (int i = kept.size() - 1; i >= 0; i--) {
                Entry row = kept.get(i);
                if (mark > row.time + 2 * size + grace) {
                    kept.remove(i);
                    hold(row.key, -1);
                }
            }
        }

        void find(ArrayList<Entry> journal, int mark) {
            for (int i = 0; i < journal.size(); i++) {
                Entry row = journal.get(i);
                if (letsIn(row) && !isTooLate(row)) {
                    findAhead(journal, i, row);
                }
            }
        }

        void findAhead(ArrayList<Entry> journal, int end, Entry row) {
            for (int i = 0; i < end && i < journal.size(); i++) {
                Entry other = journal.get(i);
                if (row.isPartnerOf(other, size) && letsIn(other) && !isTooLate(other)) {
                    found.put(found.filled, resultOf(row, other));
                }
            }
        }

        void emptyOwn() {
            kept.clear();
        }
    }

    /** Rows with the versions of their time. The slot of a left row is its number in the journal. */
    private static final class VersionView extends View {
        final ArrayList<Entry> lefts = new ArrayList<>();
        final ArrayList<Entry> versions = new ArrayList<>();
        final ArrayList<Entry> again = new ArrayList<>();

        VersionView(int number, char filter, int size, int grace, Outputs outputs) {
            super(number, true, filter, size, grace, outputs, ALL_ENTRIES);
        }

        boolean isPastGrace(Entry row, int mark) {
            return mark > row.time + grace;
        }

        /** The version of a key that counts at a time, or null. */
        Entry best(ArrayList<Entry> list, int key, int time) {
            Entry best = null;
            for (int i = 0; i < list.size(); i++) {
                Entry one = list.get(i);
                if (one.key == key && one.time <= time && (best == null || !isBetter(best, one))) {
                    best = one;
                }
            }
            return best;
        }

        boolean isBetter(Entry one, Entry other) {
            return one.time > other.time || one.time == other.time && one.value > other.value;
        }

        long resultOf(Entry left, ArrayList<Entry> list) {
            Entry version = best(list, left.key, left.time);
            if (version == null) {
                return Result.of(number, left.key, left.time, NO_VERSION, left.value);
            }
            return Result.of(number, left.key, left.time, version.time, left.value + version.value);
        }

        boolean isTold(Entry left) {
            return told.at(left.order) != Result.NONE;
        }

        void take(Entry row) {
            if (isPastGrace(row, row.ahead)) {
                drops++;
                return;
            }
            hold(row.key, 1);
            if (row.isLeft) {
                lefts.add(row);
                if (row.ahead > row.time) {
                    tell(row.order, resultOf(row, versions));
                }
            } else {
                versions.add(row);
                tellLeftsAnew(row.key);
            }
        }

        void tellLeftsAnew(int key) {
            for (int i = 0; i < lefts.size(); i++) {
                Entry left = lefts.get(i);
                if (left.key == key && isTold(left)) {
                    tellAnew(left.order, left.order, resultOf(left, versions));
                }
            }
        }

        void tellDue(int before, int mark) {
            Entry next = nextDue(mark);
            for (int i = 0; i < ALL_ENTRIES && next != null; i++) {
                tell(next.order, resultOf(next, versions));
                next = nextDue(mark);
            }
        }

        /** The due left row that is told next, or null. */
        Entry nextDue(int mark) {
            Entry next = null;
            for (int i = 0; i < lefts.size(); i++) {
                Entry left = lefts.get(i);
                if (mark > left.time && !isTold(left) && (next == null || isSooner(left, next))) {
                    next = left;
                }
            }
            return next;
        }

        boolean isSooner(Entry one, Entry other) {
            return one.time < other.time || one.time == other.time && one.key < other.key;
        }

        void letGo(int before, int mark) {
            for (int i = lefts.size() - 1; i >= 0; i--) {
                Entry left = lefts.get(i);
                if (isPastGrace(left, mark)) {
                    lefts.remove(i);
                    hold(left.key, -1);
                }
            }
            // The best version within the limit stays, and what is not the best there has a better one.
            int limit = mark - grace;
            for (int i = versions.size() - 1; i >= 0; i--) {
                Entry version = versions.get(i);
                if (version.time <= limit && version != best(versions, version.key, limit)) {
                    versions.remove(i);
                    hold(version.key, -1);
                }
            }
        }

        void find(ArrayList<Entry> journal, int mark) {
            again.clear();
            for (int i = 0; i < journal.size(); i++) {
                Entry row = journal.get(i);
                if (letsIn(row) && !row.isLeft && !isPastGrace(row, row.ahead)) {
                    again.add(row);
                }
            }
            for (int i = 0; i < journal.size(); i++) {
                Entry row = journal.get(i);
                if (letsIn(row) && row.isLeft && !isPastGrace(row, row.ahead) && mark > row.time) {
                    found.put(row.order, resultOf(row, again));
                }
            }
        }

        void emptyOwn() {
            lefts.clear();
            versions.clear();
        }
    }
}
