import java.util.NoSuchElementException;

/** Compares answers with those that are due, prints the others, and ends the program by how it went. */
final class Check {
    interface Call {
        long run();
    }

    private static int wrong = 0;
    private static int checked = 0;
    private static int passed = 0;
    private static int failed = 0;
    private static String sentence = "";

    private Check() {
    }

    /** A test of its own: it holds the program to one sentence of the document, under the promise that it belongs to. */
    static void sentence(int promise, String words, Runnable test) {
        sentence = "Promise " + promise + ", \"" + words + "\": ";
        int wrongBefore = wrong;
        int checkedBefore = checked;
        try {
            test.run();
        } catch (RuntimeException e) {
            amiss("the test was ended by " + e);
        }
        if (checked == checkedBefore) {
            amiss("nothing was checked");
        }
        if (wrong == wrongBefore) {
            passed++;
        } else {
            failed++;
        }
        sentence = "";
    }

    private static void amiss(String told) {
        wrong++;
        System.out.println(sentence + told);
    }

    static void same(String what, long got, long due) {
        checked++;
        if (got != due) {
            amiss(what + " answered " + got + ", due is " + due);
        }
    }

    static void sameText(String what, String got, String due) {
        checked++;
        if (!got.equals(due)) {
            amiss(what + " is " + got + ", due is " + due);
        }
    }

    static void yes(String what, boolean got) {
        same(what, got ? 1 : 0, 1);
    }

    static void no(String what, boolean got) {
        same(what, got ? 1 : 0, 0);
    }

    static void noIndex(String what, Call call) {
        throwing(what, call, IndexOutOfBoundsException.class);
    }

    static void noElement(String what, Call call) {
        throwing(what, call, NoSuchElementException.class);
    }

    static void noArgument(String what, Call call) {
        throwing(what, call, IllegalArgumentException.class);
    }

    private static void throwing(String what, Call call, Class<?> due) {
        checked++;
        try {
            long got = call.run();
            amiss(what + " answered " + got + ", due is " + due.getSimpleName());
        } catch (RuntimeException e) {
            if (e.getClass() != due) {
                amiss(what + " threw " + e + ", due is " + due.getSimpleName());
            }
        }
    }

    /** A recording that has to be refused with that fault. */
    static void faulty(String what, Bytes recording, int kind, int place) {
        FlightReader reader = new FlightReader();
        recording.feedTo(reader);
        noArgument(what + ": open()", reader::open);
        same(what + ": fault(0)", reader.fault(0), kind);
        same(what + ": fault(1)", reader.fault(1), place);
        same(what + ": chunks()", reader.chunks(), 0);
    }

    /** A recording that has to be taken, with so many events. */
    static FlightReader opened(String what, Bytes recording, int events) {
        FlightReader reader = new FlightReader();
        recording.feedTo(reader);
        try {
            same(what + ": open()", reader.open(), events);
        } catch (IllegalArgumentException e) {
            same(what + ": open() throws, fault " + reader.fault(0) + " at " + reader.fault(1), 1, 0);
        }
        same(what + ": fault(0)", reader.fault(0), 0);
        same(what + ": fault(1)", reader.fault(1), -1);
        return reader;
    }

    static void typed(FlightReader reader, String filter) {
        for (int i = 0; i < filter.length(); i++) {
            yes("type(" + filter.charAt(i) + ")", reader.type(filter.charAt(i)));
        }
    }

    /** A path's number from its characters. */
    static int path(String steps) {
        int path = 0;
        for (int i = 0; i < steps.length(); i++) {
            path |= steps.charAt(i) << (8 * i);
        }
        return path;
    }

    /** A program without sentences is one test. The last line is what .ci/run counts by. */
    static void end() {
        if (passed + failed == 0) {
            failed = wrong > 0 || checked == 0 ? 1 : 0;
            passed = 1 - failed;
        }
        StackTraceElement[] stack = Thread.currentThread().getStackTrace();
        System.out.println(stack[2].getClassName() + ": " + passed + " passed, " + failed + " failed");
        if (wrong > 0 || failed > 0) {
            System.exit(1);
        }
    }
}
