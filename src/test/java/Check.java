import java.util.function.LongSupplier;

/** What the tests share: answers that are due, exceptions that are due, and pads typed as texts. */
final class Check {
    private static int wrong = 0;
    private static String said = "";

    private Check() {
    }

    /** The sentence of the document that the tests from here on are of; told with what fails. */
    static void sentence(String text) {
        said = "[" + text + "] ";
    }

    static void due(String call, long got, long want) {
        if (got != want) {
            fail(call + " answered " + got + ", due is " + want);
        }
    }

    static void due(String call, boolean got, boolean want) {
        if (got != want) {
            fail(call + " answered " + got + ", due is " + want);
        }
    }

    static void due(String call, String got, String want) {
        if (!want.equals(got)) {
            fail(call + " answered '" + got + "', due is '" + want + "'");
        }
    }

    /** That the class itself throws just this exception, and that the call leaves the object as it was. */
    static void refused(String call, TimeWords x, Class<? extends RuntimeException> want, LongSupplier tried) {
        String before = look(x);
        Class<?> got = null;
        try {
            tried.getAsLong();
        } catch (RuntimeException e) {
            got = e.getClass();
            due(call + " throws by a throw of its own", isOwn(e), true);
        }
        if (got != want) {
            fail(call + " threw " + got + ", due is " + want);
        }
        due("the object after " + call, look(x), before);
    }

    /** Whether a throw in the class made it, and not the library or the machine. */
    static boolean isOwn(Throwable thrown) {
        StackTraceElement[] trace = thrown.getStackTrace();
        return trace.length > 0 && trace[0].getClassName().startsWith("TimeWords");
    }

    static void noIndex(String call, TimeWords x, LongSupplier tried) {
        refused(call, x, IndexOutOfBoundsException.class, tried);
    }

    static void noArgument(String call, TimeWords x, LongSupplier tried) {
        refused(call, x, IllegalArgumentException.class, tried);
    }

    static void noState(String call, TimeWords x, LongSupplier tried) {
        refused(call, x, IllegalStateException.class, tried);
    }

    /**
     * All of the object that can be looked at without a change to it. Looking may go beyond the 512
     * calls that the document promises anything for; the class does not count its calls.
     */
    private static String look(TimeWords x) {
        StringBuilder seen = new StringBuilder();
        int width = x.width(0);
        x.width(width);
        seen.append(x.count(0)).append(' ').append(x.count(1)).append(' ').append(width);
        seen.append(" near ").append(x.near());
        for (int i = 0; i < x.count(2); i++) {
            seen.append("; ").append(tell(x, i)).append(' ').append(say(x, i));
        }
        for (int i = 0; i < x.count(1); i++) {
            seen.append("; ").append(reignOf(x, i));
        }
        return seen.toString();
    }

    private static String reignOf(TimeWords x, int name) {
        try {
            return String.valueOf(x.regnal(name, 1));
        } catch (IllegalStateException e) {
            return "none";
        }
    }

    static void type(TimeWords x, String text) {
        x.clear();
        for (int i = 0; i < text.length(); i++) {
            due("unit of '" + text + "', sign " + i, x.unit(text.charAt(i)), i + 1);
        }
    }

    static int name(TimeWords x, String text) {
        type(x, text);
        return x.name();
    }

    static int read(TimeWords x, String text, int place, int day) {
        type(x, text);
        int span = x.read(place, day);
        due("signs left behind read of '" + text + "'", x.count(0), 0);
        return span;
    }

    static int read(TimeWords x, String text) {
        return read(x, text, 0, 0);
    }

    /** A span as "from..to", with nothing at an open end; "none" for NONE. */
    static String tell(TimeWords x, int span) {
        if (span == TimeWords.NONE) {
            return "none";
        }
        String from = x.open(span, 0) ? "" : String.valueOf(x.end(span, 0));
        String to = x.open(span, 1) ? "" : String.valueOf(x.end(span, 1));
        return from + ".." + to;
    }

    /** What a text is read as, as tell has it. */
    static String meaning(TimeWords x, String text) {
        return tell(x, read(x, text));
    }

    /** The word that says a span, or "none". */
    static String say(TimeWords x, int span) {
        int length = x.word(span, TimeWords.NONE);
        if (length == TimeWords.NONE) {
            return "none";
        }
        StringBuilder word = new StringBuilder();
        for (int i = 0; i < length; i++) {
            word.append((char) x.word(span, i));
        }
        return word.toString();
    }

    static void fail(String told) {
        wrong++;
        if (wrong <= 50) {
            System.out.println(said + told);
        }
    }

    static void finish() {
        System.out.println(wrong == 0 ? "all is as due" : wrong + " are not as due");
        if (wrong != 0) {
            System.exit(1);
        }
    }
}
