import java.util.NoSuchElementException;

/** What the tests share: checks that are counted, and short ways to where a test begins. */
abstract class Checks {
    static final Class<?> ARGUMENT = IllegalArgumentException.class;
    static final Class<?> STATE = IllegalStateException.class;
    static final Class<?> BOUNDS = IndexOutOfBoundsException.class;
    static final Class<?> NONE = NoSuchElementException.class;
    /** What is tested, for the reports. */
    static String about = "";
    private static int wrong = 0;
    private static int checks = 0;

    interface Call {
        Object answer();
    }

    static void is(Object want, Object got) {
        checks++;
        if (!want.equals(got)) {
            wrong++;
            System.out.println(about + ", line " + lineOfTest() + ": " + got + ", due is " + want);
        }
    }

    private static int lineOfTest() {
        for (StackTraceElement at : new Throwable().getStackTrace()) {
            if (!at.getClassName().equals("Checks")) {
                return at.getLineNumber();
            }
        }
        return 0;
    }

    static void fails(Class<?> want, Call call) {
        Object got;
        try {
            got = call.answer();
        } catch (RuntimeException e) {
            // The program itself has to throw, not the machine or the library within it.
            got = e.getStackTrace()[0].getClassName().equals("ViewFoundry") ? e.getClass() : e;
        }
        is(want, got);
    }

    /** Ends the program, with exit code 1 if a check was wrong. */
    static void end() {
        System.out.println(checks + " checks, " + wrong + " wrong");
        if (wrong != 0) {
            System.exit(1);
        }
    }

    static ViewFoundry with(char kind, char measure, char filter, int size, int step, int grace) {
        ViewFoundry f = new ViewFoundry();
        f.addView(kind, measure, filter, size, step, grace);
        return f;
    }

    /** Puts a row and reads it at once. */
    static void row(ViewFoundry f, int part, int key, int time, int value) {
        f.putRow(part, key, time, value);
        f.read(part, 1);
    }

    /** Puts a mark and reads it at once. */
    static void markIn(ViewFoundry f, int part, int time) {
        f.putMark(part, time);
        f.read(part, 1);
    }

    /** Raises the marks of all parts by marks in their logs. */
    static void mark(ViewFoundry f, int time) {
        for (int part = 0; part < 3; part++) {
            markIn(f, part, time);
        }
    }

    /** Raises the marks of the parts 1 and 2 out of the way, so that the part 0 alone has the mark of all. */
    static void free(ViewFoundry f) {
        markIn(f, 1, 999);
        markIn(f, 2, 999);
    }

    /** An output that waits, as its six details. */
    static String waits(ViewFoundry f, int output) {
        StringBuilder text = new StringBuilder();
        for (int what = 0; what < 6; what++) {
            text.append(what == 0 ? "" : " ").append(f.waitingAt(output, what));
        }
        return text.toString();
    }

    /** A promised output, as its six details. */
    static String isPromised(ViewFoundry f, int output) {
        StringBuilder text = new StringBuilder();
        for (int what = 0; what < 6; what++) {
            text.append(what == 0 ? "" : " ").append(f.outputAt(output, what));
        }
        return text.toString();
    }

    /** All outputs that wait, from one of them on. */
    static String waitsFrom(ViewFoundry f, int first) {
        StringBuilder text = new StringBuilder();
        for (int output = first; output < f.waiting(); output++) {
            text.append(output == first ? "" : ", ").append(waits(f, output));
        }
        return text.toString();
    }
}
