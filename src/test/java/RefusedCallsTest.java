import java.util.ArrayList;
import java.util.List;
import java.util.function.Consumer;
import java.util.function.ToLongFunction;

/**
 * "Such a call changes nothing": each call that the document has refused, in states from new to full.
 * Of two objects made by the same calls one gets the refused call; all that both answer from then on,
 * calls that use up what is kept among them, must be the same.
 */
public final class RefusedCallsTest {
    private static final Class<IndexOutOfBoundsException> INDEX = IndexOutOfBoundsException.class;
    private static final Class<IllegalArgumentException> ARGUMENT = IllegalArgumentException.class;
    private static final Class<IllegalStateException> STATE = IllegalStateException.class;
    private static final int MOST = Integer.MAX_VALUE;
    private static final int LEAST = Integer.MIN_VALUE;

    private record State(String told, Consumer<TimeWords> make) {
    }

    private record Wrong(String told, Class<? extends RuntimeException> due, ToLongFunction<TimeWords> call) {
    }

    private static final State NEW = new State("new", x -> { });
    private static final State USUAL = new State("usual", RefusedCallsTest::usual);
    private static final State FULL_PAD = new State("full pad", RefusedCallsTest::fullPad);
    private static final State FULL_NAMES = new State("24 names", RefusedCallsTest::fullNames);
    private static final State FULL_PHASES = new State("six phases", RefusedCallsTest::fullPhases);
    private static final State FULL_SPANS = new State("60 spans", RefusedCallsTest::fullSpans);
    private static final State NO_WORD = new State("60 spans, no word on the pad", RefusedCallsTest::fullSpansNoWord);
    private static final State NO_NAME = new State("no name on the pad", RefusedCallsTest::noName);

    public static void main(String[] args) {
        Check.sentence("Such a call changes nothing");
        State[] withNames = {USUAL, FULL_PAD, FULL_NAMES, FULL_PHASES, FULL_SPANS, NO_WORD, NO_NAME};
        all(NEW, wrongEverywhere());
        all(NEW, wrongWhenNew());
        for (State state : withNames) {
            all(state, wrongEverywhere());
            all(state, wrongWithNames());
        }
        all(FULL_PAD, wrongWithFullPad());
        all(FULL_NAMES, List.of(new Wrong("name() of a 25th", STATE, x -> x.name())));
        all(FULL_PHASES, wrongWithSixPhases());
        all(FULL_SPANS, wrongWithSixtySpans());
        all(NO_WORD, wrongWithSixtySpans());
        all(NO_NAME, List.of(new Wrong("name() of no name", ARGUMENT, x -> x.name())));
        Check.finish();
    }

    private static void usual(TimeWords x) {
        Check.name(x, "ab");
        Check.name(x, "q");
        Check.name(x, "none");
        x.reign(0, 100, 189);
        x.phase(0, 1, 200, 289, 50);
        x.phase(1, 0, 300, 302, 0);
        x.width(7);
        Check.read(x, "before 5c");
        Check.read(x, "after 5c");
        x.join(0, 1);
        x.span(401, 500);
        Check.type(x, "late ab");
    }

    private static void fullPad(TimeWords x) {
        usual(x);
        Check.type(x, "after early early mid ab");
    }

    private static void fullNames(TimeWords x) {
        usual(x);
        for (char letter = 'a'; x.count(1) < 24; letter++) {
            Check.name(x, "x" + letter);
        }
        Check.type(x, "abc");
    }

    private static void fullPhases(TimeWords x) {
        usual(x);
        for (int place = 2; place <= 6; place++) {
            x.phase(0, place, 10 * place, 10 * place + 9, 1000 * place);
        }
    }

    private static void fullSpans(TimeWords x) {
        usual(x);
        while (x.count(2) < 60) {
            x.span(x.count(2), 300);
        }
        Check.type(x, "ab");
    }

    private static void fullSpansNoWord(TimeWords x) {
        fullSpans(x);
        Check.type(x, "new");
    }

    private static void noName(TimeWords x) {
        usual(x);
        Check.type(x, "5c");
    }

    private static List<Wrong> wrongEverywhere() {
        List<Wrong> all = new ArrayList<>();
        for (int sign : new int[] {LEAST, -1, 31, 33, 47, 58, 96, 123, MOST}) {
            all.add(new Wrong("unit(" + sign + ")", ARGUMENT, x -> x.unit(sign)));
        }
        for (int years : new int[] {LEAST, -1, 1001, MOST}) {
            all.add(new Wrong("width(" + years + ")", ARGUMENT, x -> x.width(years)));
        }
        for (int place : new int[] {LEAST, -1, 8, MOST}) {
            all.add(new Wrong("read(" + place + ", 0)", INDEX, x -> x.read(place, 0)));
            all.add(new Wrong("read(" + place + ", -1)", INDEX, x -> x.read(place, -1)));
        }
        for (int day : new int[] {LEAST, -1, 100001, MOST}) {
            all.add(new Wrong("read(0, " + day + ")", ARGUMENT, x -> x.read(0, day)));
        }
        for (int[] y : wrongYears()) {
            all.add(new Wrong("span(" + y[0] + ", " + y[1] + ")", ARGUMENT, x -> x.span(y[0], y[1])));
        }
        for (int what : new int[] {LEAST, -1, 3, MOST}) {
            all.add(new Wrong("count(" + what + ")", INDEX, x -> x.count(what)));
        }
        for (int[] f : new int[][] {{-10000, 1, 0, 1}, {10000, 1, 0, 1}, {1, 0, 0, 1}, {1, 13, 0, 1}, {1, 1, -1, 1}, {1, 1, 7, 1}, {1, 1, 0, 0},
            {1, 1, 0, 6}, {1, 1, 0, -2}}) {
            all.add(new Wrong("feast of month " + f[1], ARGUMENT, x -> x.feast(f[0], f[1], f[2], f[3])));
        }
        for (int number : new int[] {LEAST, -1, 60, MOST}) {
            all.addAll(wrongNumbers(number, number));
        }
        return all;
    }

    private static int[][] wrongYears() {
        return new int[][] {{2, 1}, {9999, -9999}, {-10000, 1}, {-10000, -10000}, {1, 10000}, {10000, 10000}, {LEAST, MOST}, {MOST, LEAST}};
    }

    /** Calls with a number of a name and one of a span that there is not. */
    private static List<Wrong> wrongNumbers(int name, int span) {
        List<Wrong> all = new ArrayList<>();
        all.add(new Wrong("reign of name " + name, INDEX, x -> x.reign(name, 1, 2) ? 1 : 0));
        all.add(new Wrong("reign of name " + name + ", no years", INDEX, x -> x.reign(name, 2, 1) ? 1 : 0));
        all.add(new Wrong("phase of name " + name, INDEX, x -> x.phase(name, 0, 1, 2, 0)));
        all.add(new Wrong("phase of name " + name + ", no years", INDEX, x -> x.phase(name, 0, 2, 1, -1)));
        all.add(new Wrong("regnal of name " + name, INDEX, x -> x.regnal(name, 1)));
        all.add(new Wrong("regnal of name " + name + ", no year", INDEX, x -> x.regnal(name, 0)));
        for (int which = 0; which < 2; which++) {
            int end = which;
            all.add(new Wrong("end of span " + span, INDEX, x -> x.end(span, end)));
            all.add(new Wrong("open of span " + span, INDEX, x -> x.open(span, end) ? 1 : 0));
        }
        for (int i = -1; i < 1; i++) {
            int sign = i;
            all.add(new Wrong("word of span " + span, INDEX, x -> x.word(span, sign)));
        }
        all.add(new Wrong("join(" + span + ", 0)", INDEX, x -> x.join(span, 0)));
        all.add(new Wrong("join(0, " + span + ")", INDEX, x -> x.join(0, span)));
        all.add(new Wrong("relations(" + span + ", 0)", INDEX, x -> x.relations(span, 0)));
        all.add(new Wrong("relations(0, " + span + ")", INDEX, x -> x.relations(0, span)));
        all.add(new Wrong("relation(" + span + ", 0)", INDEX, x -> x.relation(span, 0)));
        all.add(new Wrong("relation(0, " + span + ")", INDEX, x -> x.relation(0, span)));
        return all;
    }

    private static List<Wrong> wrongWhenNew() {
        List<Wrong> all = new ArrayList<>(wrongNumbers(0, 0));
        all.add(new Wrong("name() of an empty pad", ARGUMENT, x -> x.name()));
        return all;
    }

    /** What is wrong wherever usual has been, full or not. */
    private static List<Wrong> wrongWithNames() {
        List<Wrong> all = new ArrayList<>();
        for (int place : new int[] {LEAST, -1, 8, MOST}) {
            all.add(new Wrong("phase at place " + place, INDEX, x -> x.phase(0, place, 1, 2, 0)));
            all.add(new Wrong("phase at place " + place + ", no day", INDEX, x -> x.phase(0, place, 1, 2, -1)));
        }
        for (int[] y : wrongYears()) {
            all.add(new Wrong("reign " + y[0] + ".." + y[1], ARGUMENT, x -> x.reign(0, y[0], y[1]) ? 1 : 0));
            all.add(new Wrong("first reign " + y[0] + ".." + y[1], ARGUMENT, x -> x.reign(2, y[0], y[1]) ? 1 : 0));
            all.add(new Wrong("phase " + y[0] + ".." + y[1], ARGUMENT, x -> x.phase(0, 1, y[0], y[1], 50)));
        }
        for (int day : new int[] {LEAST, -1, 100001, MOST}) {
            all.add(new Wrong("phase of day " + day, ARGUMENT, x -> x.phase(0, 1, 1, 2, day)));
        }
        for (int which : new int[] {LEAST, -1, 2, MOST}) {
            all.add(new Wrong("end " + which, INDEX, x -> x.end(0, which)));
            all.add(new Wrong("open " + which, INDEX, x -> x.open(0, which) ? 1 : 0));
        }
        for (int i : new int[] {LEAST, -2, 9, MOST}) {
            all.add(new Wrong("sign " + i + " of \"before 5c\"", INDEX, x -> x.word(0, i)));
        }
        all.add(new Wrong("sign 0 of no word", INDEX, x -> x.word(2, 0)));
        int[][] openEnds = {{0, 0}, {1, 1}, {2, 0}, {2, 1}};
        for (int[] open : openEnds) {
            all.add(new Wrong("an open end", STATE, x -> x.end(open[0], open[1])));
        }
        for (int open = 0; open < 3; open++) {
            int span = open;
            all.add(new Wrong("relation of an open one", STATE, x -> x.relation(span, 3)));
            all.add(new Wrong("relation to an open one", STATE, x -> x.relation(3, span)));
        }
        for (int n : new int[] {LEAST, -1, 0}) {
            all.add(new Wrong("regnal(0, " + n + ")", ARGUMENT, x -> x.regnal(0, n)));
            all.add(new Wrong("regnal(1, " + n + ")", ARGUMENT, x -> x.regnal(1, n)));
        }
        all.add(new Wrong("regnal(0, 91)", STATE, x -> x.regnal(0, 91)));
        all.add(new Wrong("regnal(0, MOST)", STATE, x -> x.regnal(0, MOST)));
        all.add(new Wrong("regnal(1, 1)", STATE, x -> x.regnal(1, 1)));
        return all;
    }

    private static List<Wrong> wrongWithFullPad() {
        List<Wrong> all = new ArrayList<>();
        for (int sign : new int[] {'a', 'z', '0', '9', ' '}) {
            all.add(new Wrong("unit(" + sign + ")", STATE, x -> x.unit(sign)));
        }
        all.add(new Wrong("name() of a full pad", ARGUMENT, x -> x.name()));
        return all;
    }

    private static List<Wrong> wrongWithSixPhases() {
        List<Wrong> all = new ArrayList<>();
        for (int place = 0; place < 8; place++) {
            int tried = place;
            all.add(new Wrong("phase 7 at place " + place, STATE, x -> x.phase(0, tried, 1, 2, 100000)));
        }
        return all;
    }

    private static List<Wrong> wrongWithSixtySpans() {
        List<Wrong> all = new ArrayList<>();
        all.add(new Wrong("read", STATE, x -> x.read(0, 0)));
        all.add(new Wrong("span", STATE, x -> x.span(1, 2)));
        all.add(new Wrong("join", STATE, x -> x.join(3, 4)));
        return all;
    }

    private static void all(State state, List<Wrong> wrongs) {
        for (Wrong wrong : wrongs) {
            one(state, wrong);
        }
    }

    private static void one(State state, Wrong wrong) {
        TimeWords x = new TimeWords();
        TimeWords twin = new TimeWords();
        state.make.accept(x);
        state.make.accept(twin);
        String told = wrong.told + ", " + state.told;
        Check.due(told, thrown(x, wrong.call), wrong.due.getSimpleName());
        Check.due("what it answers after " + told, drain(x), drain(twin));
    }

    private static String thrown(TimeWords x, ToLongFunction<TimeWords> call) {
        try {
            return "answer " + call.applyAsLong(x);
        } catch (RuntimeException e) {
            return (Check.isOwn(e) ? "" : "by itself ") + e.getClass().getSimpleName();
        }
    }

    /** All that the object answers, by calls that change it in the end. */
    private static String drain(TimeWords x) {
        StringBuilder seen = new StringBuilder();
        int spans = x.count(2);
        int names = x.count(1);
        seen.append(x.count(0)).append(' ').append(names).append(' ').append(spans).append(" near ").append(x.near());
        for (int i = 0; i <= spans; i++) {
            int span = i;
            seen.append("; ").append(thrown(x, y -> y.end(span, 0))).append(' ').append(thrown(x, y -> y.end(span, 1)));
        }
        for (int n : new int[] {1, 3, 90, 91}) {
            seen.append("; ").append(thrown(x, y -> y.regnal(0, n))).append(' ').append(thrown(x, y -> y.regnal(2, n)));
        }
        seen.append("; pad ").append(thrown(x, y -> y.read(0, 100000))).append(' ').append(thrown(x, y -> y.end(spans, 0)));
        seen.append(' ').append(thrown(x, y -> y.name())).append(' ').append(x.clear());
        drainNames(x, seen);
        seen.append("; width ").append(x.width(0)).append("; ").append(thrown(x, y -> y.span(1, 1)));
        return seen.toString();
    }

    private static void drainNames(TimeWords x, StringBuilder seen) {
        for (int place = 0; place < 8; place++) {
            for (int day : new int[] {49, 50, 100000}) {
                int at = place;
                x.unit('a');
                x.unit('b');
                seen.append("; ").append(thrown(x, y -> y.read(at, day)));
                int last = x.count(2) - 1;
                seen.append(' ').append(thrown(x, y -> y.end(last, 0)));
                x.clear();
            }
        }
        for (int name = 0; name <= x.count(1); name++) {
            int number = name;
            seen.append("; ").append(thrown(x, y -> y.phase(number, 0, 1, 1, 0)));
        }
    }
}
