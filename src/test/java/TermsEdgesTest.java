import java.util.function.IntBinaryOperator;

/** Each sentence of "What it is" and of "Terms" that names a boundary case, with a test of its own. */
public final class TermsEdgesTest {
    private static final int MOST = Integer.MAX_VALUE;
    private static final int LEAST = Integer.MIN_VALUE;
    private static final int[] AROUND_YEARS = {LEAST, -10001, -10000, -9999, -9998, -1, 0, 1, 9998, 9999, 10000, 10001, MOST};
    private static final int[] AROUND_DAYS = {LEAST, -2, -1, 0, 1, 99999, 100000, 100001, 100002, MOST};
    private static final int[] AROUND_PLACES = {LEAST, -2, -1, 0, 1, 6, 7, 8, 9, MOST};

    public static void main(String[] args) {
        calls();
        yearsOfSpans();
        yearsOfReigns();
        yearsOfPhases();
        yearsOfFeasts();
        bothYearsAreOfTheSpan();
        openAtOneEndOrBoth();
        spansAreNumbered();
        spansAreAtMostSixty();
        padHasAtMost24Signs();
        padEndsWhereItsSignsEnd();
        signs();
        namesHaveOneToEightLetters();
        namesHaveLettersAlone();
        namesAreAtMost24();
        namesAreEachOnce();
        places();
        days();
        oneReign();
        sixPhases();
        centuryNumbers();
        centuryDigitsAndLetter();
        thirdsOfYears();
        thirdsOfOpenWords();
        thirdsBeginWithTheirWords();
        aboutAtBothEnds();
        aboutOpenWords();
        beforeFirstYear();
        afterLastYear();
        beforeAndAfterOpenWords();
        phaseAtThePlace();
        phaseInUseOnTheDay();
        phaseWithTheGreatestDay();
        phaseOfEqualDays();
        noPhaseThenReign();
        fiveBeginnings();
        relationOfSlidingSpans();
        relationOfSpansThatShareAnEnd();
        indexThenArgumentThenState();
        Check.finish();
    }

    private static boolean isYear(int year) {
        return year >= -9999 && year <= 9999;
    }

    private static void accepted(boolean isDue, String call, TimeWords x, IntBinaryOperator made, int from, int to) {
        if (isDue) {
            made.applyAsInt(from, to);
        } else {
            Check.noArgument(call + " from " + from + " to " + to, x, () -> made.applyAsInt(from, to));
        }
    }

    private static void calls() {
        Check.sentence("An object is used for at most 512 calls after it has been made");
        TimeWords x = new TimeWords();
        for (int i = 0; i < 254; i++) {
            Check.due("call " + (2 * i + 1) + ", unit", x.unit('a'), 1);
            Check.due("call " + (2 * i + 2) + ", clear", x.clear(), 1);
        }
        Check.due("call 509, unit", x.unit('5'), 1);
        Check.due("call 510, unit", x.unit('c'), 2);
        Check.due("call 511, read", x.read(0, 0), 0);
        Check.due("call 512, end", x.end(0, 1), 500);
    }

    private static void yearsOfSpans() {
        Check.sentence("YEARS are -9999 .. 9999 (0 is one): span");
        TimeWords x = new TimeWords();
        for (int year : AROUND_YEARS) {
            accepted(isYear(year), "span", x, x::span, year, 9999);
            accepted(isYear(year), "span", x, x::span, -9999, year);
            accepted(isYear(year), "span", x, x::span, year, year);
        }
        Check.due("spans", x.count(2), 21);
        Check.due("a span of the last year", Check.tell(x, 20), "9999..9999");
        Check.due("a span of year 0", Check.tell(x, 11), "0..0");
    }

    private static void yearsOfReigns() {
        Check.sentence("YEARS are -9999 .. 9999 (0 is one): reign");
        TimeWords x = new TimeWords();
        Check.name(x, "q");
        IntBinaryOperator made = (from, to) -> x.reign(0, from, to) ? 1 : 0;
        for (int year : AROUND_YEARS) {
            accepted(isYear(year), "reign", x, made, year, 9999);
            accepted(isYear(year), "reign", x, made, -9999, year);
            accepted(isYear(year), "reign", x, made, year, year);
            if (isYear(year)) {
                Check.due("the reign's year", x.regnal(0, 1), year);
            }
        }
    }

    private static void yearsOfPhases() {
        Check.sentence("YEARS are -9999 .. 9999 (0 is one): phase");
        for (int year : AROUND_YEARS) {
            TimeWords x = new TimeWords();
            Check.name(x, "q");
            IntBinaryOperator made = (from, to) -> x.phase(0, 0, from, to, 0);
            accepted(isYear(year), "phase", x, made, year, 9999);
            accepted(isYear(year), "phase", x, made, -9999, year);
            accepted(isYear(year), "phase", x, made, year, year);
            Check.due("what it stands for", Check.meaning(x, "q"), isYear(year) ? year + ".." + year : "none");
        }
    }

    private static void yearsOfFeasts() {
        Check.sentence("YEARS are -9999 .. 9999 (0 is one): feast");
        TimeWords x = new TimeWords();
        // The first Mondays of January, as the calendar that repeats after 400 years has them.
        int[] first = {0, 0, 0, 1, 7, 4, 3, 1, 5, 4, 0, 0, 0};
        for (int i = 0; i < AROUND_YEARS.length; i++) {
            int year = AROUND_YEARS[i];
            if (isYear(year)) {
                Check.due("feast of year " + year, x.feast(year, 1, 0, 1), first[i]);
            } else {
                Check.noArgument("feast of year " + year, x, () -> x.feast(year, 1, 0, 1));
            }
        }
    }

    private static void bothYearsAreOfTheSpan() {
        Check.sentence("a SPAN is from a year to a year (both with it)");
        TimeWords x = new TimeWords();
        Check.name(x, "q");
        for (int from : new int[] {-9999, -1, 0, 1, 9998}) {
            Check.due("one year", Check.tell(x, x.span(from, from)), from + ".." + from);
            Check.due("two years", Check.tell(x, x.span(from, from + 1)), from + ".." + (from + 1));
            Check.noArgument("from above to by one", x, () -> x.span(from + 1, from));
            x.reign(0, from, from);
            Check.due("the only year of a reign", x.regnal(0, 1), from);
            Check.noState("the year behind it", x, () -> x.regnal(0, 2));
            Check.noArgument("a reign from above to by one", x, () -> x.reign(0, from + 1, from) ? 1 : 0);
            Check.noArgument("a phase from above to by one", x, () -> x.phase(0, 0, from + 1, from, 0));
        }
    }

    private static void openAtOneEndOrBoth() {
        Check.sentence("or OPEN at one end or both (then it has no first or last year)");
        TimeWords x = new TimeWords();
        Check.due("not open", Check.meaning(x, "5c"), "401..500");
        Check.due("open at the first end", Check.meaning(x, "before 5c"), "..400");
        Check.due("open at the last end", Check.meaning(x, "after 5c"), "501..");
        Check.due("open at both", Check.tell(x, x.join(1, 2)), "..");
        Check.noState("no first year", x, () -> x.end(1, 0));
        Check.noState("no last year", x, () -> x.end(2, 1));
        Check.noState("neither: the first", x, () -> x.end(3, 0));
        Check.noState("neither: the last", x, () -> x.end(3, 1));
        // A span as wide as years go is not open.
        Check.due("all years", Check.tell(x, x.span(-9999, 9999)), "-9999..9999");
    }

    private static void spansAreNumbered() {
        Check.sentence("Spans are numbered 0, 1, ..: each call that makes one gives it the next number");
        TimeWords x = new TimeWords();
        Check.due("span", x.span(1, 2), 0);
        Check.due("read", Check.read(x, "5c"), 1);
        Check.due("join", x.join(0, 1), 2);
        Check.due("no word makes none", Check.read(x, "100c"), TimeWords.NONE);
        Check.noArgument("a refused span makes none", x, () -> x.span(2, 1));
        Check.noIndex("a refused join makes none", x, () -> x.join(0, 3));
        Check.noIndex("a refused read makes none", x, () -> x.read(8, 0));
        Check.due("the same span again", x.span(1, 2), 3);
        Check.due("join of one with itself", x.join(3, 3), 4);
        Check.due("spans", x.count(2), 5);
    }

    private static void spansAreAtMostSixty() {
        Check.sentence("Spans are numbered 0, 1, .. , at most 60");
        for (int kind = 0; kind < 3; kind++) {
            TimeWords x = new TimeWords();
            x.span(7, 7);
            int used = kind;
            for (int i = 1; i < 60; i++) {
                Check.due("span " + i, makeSpan(x, used), i);
            }
            for (int other = 0; other < 3; other++) {
                int tried = other;
                Check.type(x, "5c");
                Check.noState("span 60", x, () -> spanOfKind(x, tried));
            }
            Check.due("spans", x.count(2), 60);
            Check.due("the last of them", Check.tell(x, 59), used == 1 ? "401..500" : "7..7");
            Check.noIndex("a 61st", x, () -> x.end(60, 0));
        }
    }

    private static int makeSpan(TimeWords x, int kind) {
        if (kind == 1) {
            Check.type(x, "5c");
        }
        return spanOfKind(x, kind);
    }

    private static int spanOfKind(TimeWords x, int kind) {
        return kind == 0 ? x.span(7, 7) : kind == 1 ? x.read(0, 0) : x.join(0, 0);
    }

    private static void padHasAtMost24Signs() {
        Check.sentence("THE PAD is a row of at most 24 SIGNS");
        for (char sign : new char[] {'a', 'z', '0', '9', ' '}) {
            TimeWords x = new TimeWords();
            for (int i = 1; i <= 24; i++) {
                Check.due("sign " + i, x.unit(sign), i);
            }
            Check.noState("sign 25", x, () -> x.unit(sign));
            Check.noState("sign 25 again", x, () -> x.unit(sign));
            Check.due("signs", x.clear(), 24);
            Check.due("the first sign of an empty pad", x.unit(sign), 1);
        }
    }

    private static void padEndsWhereItsSignsEnd() {
        Check.sentence("WORDS: the pad (and nothing that stood on it before)");
        TimeWords x = new TimeWords();
        Check.name(x, "early");
        x.reign(0, 10, 39);
        Check.due("early early", Check.meaning(x, "early early"), "10..19");
        Check.due("early, where a space stood behind", Check.meaning(x, "early"), "10..39");
        Check.due("5c", Check.meaning(x, "5c"), "401..500");
        Check.due("5, where a c stood behind", Check.meaning(x, "5"), "none");
        Check.due("12c", Check.meaning(x, "12c"), "1101..1200");
        Check.due("1c, where a c stood behind", Check.meaning(x, "1c"), "1..100");
    }

    private static void signs() {
        Check.sentence("SIGNS 97 .. 122, 48 .. 57, 32");
        TimeWords x = new TimeWords();
        int[] none = {LEAST, -97, -32, -1, 0, 31, 33, 46, 47, 58, 59, 64, 65, 90, 95, 96, 123, 124, 127, 128, 97 + 256, 32 + 65536, MOST};
        for (int sign : none) {
            Check.noArgument("unit(" + sign + ")", x, () -> x.unit(sign));
        }
        int[] some = {32, 48, 49, 52, 56, 57, 97, 98, 109, 121, 122};
        for (int i = 0; i < some.length; i++) {
            Check.due("unit(" + some[i] + ")", x.unit(some[i]), i + 1);
        }
    }

    private static void namesHaveOneToEightLetters() {
        Check.sentence("NAMES are rows of 1 .. 8 letters");
        TimeWords x = new TimeWords();
        String letters = "abcdefghijklmnopqrstuvwx";
        for (int length = 0; length <= 24; length++) {
            Check.type(x, letters.substring(0, length));
            if (length >= 1 && length <= 8) {
                Check.due("a name of " + length, x.name(), length - 1);
            } else {
                Check.noArgument("a name of " + length, x, x::name);
            }
        }
        Check.due("names", x.count(1), 8);
    }

    private static void namesHaveLettersAlone() {
        Check.sentence("letters 97 .. 122");
        for (int length = 1; length <= 8; length++) {
            for (int at = 0; at < length; at++) {
                for (char sign : new char[] {'0', '9', ' '}) {
                    TimeWords x = new TimeWords();
                    Check.type(x, "a".repeat(at) + sign + "z".repeat(length - at - 1));
                    Check.noArgument("a name with '" + sign + "' at " + at + " of " + length, x, x::name);
                }
            }
        }
        TimeWords x = new TimeWords();
        Check.due("azbyamzz", Check.name(x, "azbyamzz"), 0);
        Check.due("a", Check.name(x, "a"), 1);
        Check.due("z", Check.name(x, "z"), 2);
    }

    private static void namesAreAtMost24() {
        Check.sentence("at most 24 of them");
        TimeWords x = new TimeWords();
        for (int i = 0; i < 24; i++) {
            Check.due("name " + i, Check.name(x, String.valueOf((char) ('a' + i))), i);
        }
        Check.type(x, "y");
        Check.noState("a 25th name", x, x::name);
        Check.due("names", x.count(1), 24);
        Check.due("the last name's reign", x.reign(23, 1, 2), true);
        Check.noIndex("a 25th name's reign", x, () -> x.reign(24, 1, 2) ? 1 : 0);
    }

    private static void namesAreEachOnce() {
        Check.sentence("each once");
        TimeWords x = new TimeWords();
        String[] names = {"a", "aa", "ab", "b", "aaaaaaaa", "aaaaaaab", "aaaaaaa"};
        for (int round = 0; round < 3; round++) {
            for (int i = 0; i < names.length; i++) {
                Check.due(names[i] + " in round " + round, Check.name(x, names[i]), i);
            }
        }
        Check.due("names", x.count(1), names.length);
    }

    private static void places() {
        Check.sentence("a PLACE 0 .. 7");
        for (int place : AROUND_PLACES) {
            TimeWords x = new TimeWords();
            Check.name(x, "q");
            Check.type(x, "q");
            if (place >= 0 && place <= 7) {
                Check.due("phase at " + place, x.phase(0, place, 5, 6, 0), 1);
                Check.due("read at " + place, Check.tell(x, x.read(place, 0)), "5..6");
            } else {
                Check.noIndex("phase at " + place, x, () -> x.phase(0, place, 5, 6, 0));
                Check.noIndex("read at " + place, x, () -> x.read(place, 0));
            }
        }
    }

    private static void days() {
        Check.sentence("a DAY 0 .. 100000");
        for (int day : AROUND_DAYS) {
            TimeWords x = new TimeWords();
            Check.name(x, "q");
            Check.type(x, "q");
            if (day >= 0 && day <= 100000) {
                Check.due("phase of day " + day, x.phase(0, 0, 5, 6, day), 1);
                Check.due("read on day " + day, Check.tell(x, x.read(0, day)), "5..6");
            } else {
                Check.noArgument("phase of day " + day, x, () -> x.phase(0, 0, 5, 6, day));
                Check.noArgument("read on day " + day, x, () -> x.read(0, day));
            }
        }
    }

    private static void oneReign() {
        Check.sentence("A name has at most one reign");
        TimeWords x = new TimeWords();
        Check.name(x, "q");
        for (int i = 1; i <= 8; i++) {
            Check.due("reign " + i, x.reign(0, 10 * i, 10 * i + 1), i == 1);
            Check.due("what it stands for", Check.meaning(x, "q"), 10 * i + ".." + (10 * i + 1));
            Check.noState("more years than the last one has", x, () -> x.regnal(0, 3));
        }
    }

    private static void sixPhases() {
        Check.sentence("and at most six phases");
        TimeWords x = new TimeWords();
        Check.name(x, "q");
        Check.name(x, "r");
        for (int i = 1; i <= 6; i++) {
            Check.due("phase " + i, x.phase(0, i, i, i, i), i);
        }
        for (int place = 0; place < 8; place++) {
            int tried = place;
            Check.noState("phase 7 at place " + place, x, () -> x.phase(0, tried, 99, 99, 100000));
            int span = Check.read(x, "q", place, 100000);
            Check.due("phase at place " + place, Check.tell(x, span), place >= 1 && place <= 6 ? place + ".." + place : "none");
        }
        Check.due("a reign beside six phases", x.reign(0, 1, 2), true);
        Check.due("the first phase of another name", x.phase(1, 0, 1, 1, 0), 1);
    }

    private static void centuryNumbers() {
        Check.sentence("a number n from 1 to 99 .. the CENTURY: 100 (n - 1) + 1 .. 100 n");
        TimeWords x = new TimeWords();
        Check.due("0c", Check.meaning(x, "0c"), "none");
        Check.due("1c", Check.meaning(x, "1c"), "1..100");
        Check.due("2c", Check.meaning(x, "2c"), "101..200");
        Check.due("9c", Check.meaning(x, "9c"), "801..900");
        Check.due("10c", Check.meaning(x, "10c"), "901..1000");
        Check.due("11c", Check.meaning(x, "11c"), "1001..1100");
        Check.due("98c", Check.meaning(x, "98c"), "9701..9800");
        Check.due("99c", Check.meaning(x, "99c"), "9801..9900");
        Check.due("100c", Check.meaning(x, "100c"), "none");
    }

    private static void centuryDigitsAndLetter() {
        Check.sentence("of one or two digits and the letter c (99)");
        TimeWords x = new TimeWords();
        for (String none : new String[] {"c", "5", "55", "5b", "5d", "55b", "55d", "5cc", "555c", "005c", "05 c", "5 5c", "c5c", "5c5", "00c",
            "ac", "5ac", "a5c"}) {
            Check.due("'" + none + "'", Check.meaning(x, none), "none");
        }
        Check.due("one digit", Check.meaning(x, "7c"), "601..700");
        Check.due("two digits", Check.meaning(x, "70c"), "6901..7000");
        Check.due("two digits, the first a 0", Check.meaning(x, "07c"), "601..700");
    }

    private static void thirdsOfYears() {
        Check.sentence("of n years, n / 3 each (rounded down), and what is left goes to the last one; if n is less than 3 it is no word");
        String[][] due = {{"none", "none", "none"}, {"none", "none", "none"}, {"-1..-1", "0..0", "1..1"}, {"-1..-1", "0..0", "1..2"},
            {"-1..-1", "0..0", "1..3"}, {"-1..0", "1..2", "3..4"}, {"-1..0", "1..2", "3..5"}, {"-1..0", "1..2", "3..6"}, {"-1..1", "2..4", "5..7"}};
        TimeWords x = new TimeWords();
        Check.name(x, "q");
        for (int n = 1; n <= due.length; n++) {
            x.reign(0, -1, n - 2);
            Check.due("early of " + n, Check.meaning(x, "early q"), due[n - 1][0]);
            Check.due("mid of " + n, Check.meaning(x, "mid q"), due[n - 1][1]);
            Check.due("late of " + n, Check.meaning(x, "late q"), due[n - 1][2]);
        }
        x.reign(0, -9999, 9999);
        Check.due("early of all years", Check.meaning(x, "early q"), "-9999..-3334");
        Check.due("mid of all years", Check.meaning(x, "mid q"), "-3333..3332");
        Check.due("late of all years", Check.meaning(x, "late q"), "3333..9999");
    }

    private static void thirdsOfOpenWords() {
        Check.sentence("\"early \", \"mid \", \"late \", then a word that is not open");
        TimeWords x = new TimeWords();
        for (String third : new String[] {"early ", "mid ", "late "}) {
            Check.due(third + "before 5c", Check.meaning(x, third + "before 5c"), "none");
            Check.due(third + "after 5c", Check.meaning(x, third + "after 5c"), "none");
            Check.due(third + "no word", Check.meaning(x, third + "0c"), "none");
            Check.due(third + "nothing", Check.meaning(x, third), "none");
        }
        Check.due("spans", x.count(2), 0);
    }

    private static void thirdsBeginWithTheirWords() {
        Check.sentence("\"early \", \"mid \", \"late \", \"about \", \"before \", \"after \", with one space behind");
        TimeWords x = new TimeWords();
        for (String word : new String[] {"early", "mid", "late", "about", "before", "after"}) {
            Check.due(word + " without a space", Check.meaning(x, word + "5c"), "none");
            Check.due(word + " with two", Check.meaning(x, word + "  5c"), "none");
            Check.due(word + " behind a space", Check.meaning(x, " " + word + " 5c"), "none");
            Check.due(word + " without its last letter", Check.meaning(x, word.substring(0, word.length() - 1) + " 5c"), "none");
            Check.due(word + " with another first letter", Check.meaning(x, "x" + word.substring(1) + " 5c"), "none");
            Check.due(word + " with another last letter", Check.meaning(x, word.substring(0, word.length() - 1) + "x 5c"), "none");
            Check.due(word + " with one letter more", Check.meaning(x, word + "s 5c"), "none");
            Check.due(word + " behind", Check.meaning(x, "5c " + word), "none");
            Check.due(word + " alone", Check.meaning(x, word), "none");
        }
    }

    private static void aboutAtBothEnds() {
        Check.sentence("so many years more at both ends as the WIDTH says (25 at first), within -9999 .. 9999");
        TimeWords x = new TimeWords();
        Check.name(x, "q");
        int[][] reigns = {{-9975, 9973}, {-9974, 9974}, {-9973, 9975}, {-9999, -9999}, {9999, 9999}, {0, 0}};
        String[] due = {"-9999..9998", "-9999..9999", "-9998..9999", "-9999..-9974", "9974..9999", "-25..25"};
        for (int i = 0; i < reigns.length; i++) {
            x.reign(0, reigns[i][0], reigns[i][1]);
            Check.due("about " + reigns[i][0] + ".." + reigns[i][1], Check.meaning(x, "about q"), due[i]);
        }
        int[] widths = {0, 1, 999, 1000};
        String[] dueOfWidth = {"0..0", "-1..1", "-999..999", "-1000..1000"};
        for (int i = 0; i < widths.length; i++) {
            x.width(widths[i]);
            Check.due("about year 0 by " + widths[i], Check.meaning(x, "about q"), dueOfWidth[i]);
        }
    }

    private static void aboutOpenWords() {
        Check.sentence("\"about \", then a word that is not open");
        TimeWords x = new TimeWords();
        for (int width : new int[] {25, 0, 1000}) {
            x.width(width);
            Check.due("about before 5c", Check.meaning(x, "about before 5c"), "none");
            Check.due("about after 5c", Check.meaning(x, "about after 5c"), "none");
            Check.due("about no word", Check.meaning(x, "about 0c"), "none");
            Check.due("about nothing", Check.meaning(x, "about "), "none");
        }
        Check.due("spans", x.count(2), 0);
    }

    private static void beforeFirstYear() {
        Check.sentence("\"before \", then a word .. whose first year is not -9999: open, up to the year ahead of it");
        TimeWords x = new TimeWords();
        Check.name(x, "q");
        int[] first = {-9999, -9998, -9997, 0, 1, 9999};
        String[] due = {"none", "..-9999", "..-9998", "..-1", "..0", "..9998"};
        for (int i = 0; i < first.length; i++) {
            x.reign(0, first[i], 9999);
            Check.due("before what begins in " + first[i], Check.meaning(x, "before q"), due[i]);
        }
        x.reign(0, -9974, 0);
        Check.due("before what is widened to the first year", Check.meaning(x, "before about q"), "none");
        x.reign(0, -9973, 0);
        Check.due("before what is widened to the second year", Check.meaning(x, "before about q"), "..-9999");
    }

    private static void afterLastYear() {
        Check.sentence("\"after \", then one whose last year is not 9999: from the year behind it on, open");
        TimeWords x = new TimeWords();
        Check.name(x, "q");
        int[] last = {9999, 9998, 9997, 0, -1, -9999};
        String[] due = {"none", "9999..", "9998..", "1..", "0..", "-9998.."};
        for (int i = 0; i < last.length; i++) {
            x.reign(0, -9999, last[i]);
            Check.due("after what ends in " + last[i], Check.meaning(x, "after q"), due[i]);
        }
        x.reign(0, 0, 9974);
        Check.due("after what is widened to the last year", Check.meaning(x, "after about q"), "none");
        x.reign(0, 0, 9973);
        Check.due("after what is widened to the last year but one", Check.meaning(x, "after about q"), "9999..");
    }

    private static void beforeAndAfterOpenWords() {
        Check.sentence("\"before \", then a word that is not open; \"after \", then one");
        TimeWords x = new TimeWords();
        for (String one : new String[] {"before ", "after "}) {
            for (String other : new String[] {"before ", "after "}) {
                Check.due(one + other + "5c", Check.meaning(x, one + other + "5c"), "none");
            }
            Check.due(one + "no word", Check.meaning(x, one + "0c"), "none");
            Check.due(one + "nothing", Check.meaning(x, one), "none");
        }
        Check.due("spans", x.count(2), 0);
    }

    private static void phaseAtThePlace() {
        Check.sentence("a name: its phase at the place");
        TimeWords x = new TimeWords();
        Check.name(x, "q");
        x.phase(0, 0, 1, 1, 0);
        x.phase(0, 3, 2, 2, 0);
        x.phase(0, 7, 3, 3, 0);
        String[] due = {"1..1", "none", "none", "2..2", "none", "none", "none", "3..3"};
        for (int place = 0; place < 8; place++) {
            Check.due("at place " + place, Check.tell(x, Check.read(x, "q", place, 100000)), due[place]);
        }
    }

    private static void phaseInUseOnTheDay() {
        Check.sentence("in use on the day: from a DAY on");
        TimeWords x = new TimeWords();
        Check.name(x, "q");
        x.phase(0, 0, 1, 1, 500);
        x.phase(0, 1, 2, 2, 0);
        x.phase(0, 2, 3, 3, 100000);
        int[][] reads = {{0, 0}, {0, 499}, {0, 500}, {0, 501}, {0, 100000}, {1, 0}, {1, 1}, {2, 0}, {2, 99999}, {2, 100000}};
        String[] due = {"none", "none", "1..1", "1..1", "1..1", "2..2", "2..2", "none", "none", "3..3"};
        for (int i = 0; i < due.length; i++) {
            String told = "at place " + reads[i][0] + " on day " + reads[i][1];
            Check.due(told, Check.tell(x, Check.read(x, "q", reads[i][0], reads[i][1])), due[i]);
        }
    }

    private static void phaseWithTheGreatestDay() {
        Check.sentence("with the greatest day");
        int[][] orders = {{10, 20, 30}, {30, 20, 10}, {20, 30, 10}, {10, 30, 20}, {30, 10, 20}, {20, 10, 30}};
        for (int[] order : orders) {
            TimeWords x = new TimeWords();
            Check.name(x, "q");
            for (int day : order) {
                x.phase(0, 0, day, day, day);
            }
            int[] days = {9, 10, 19, 20, 29, 30, 31};
            String[] due = {"none", "10..10", "10..10", "20..20", "20..20", "30..30", "30..30"};
            for (int i = 0; i < days.length; i++) {
                Check.due("on day " + days[i], Check.tell(x, Check.read(x, "q", 0, days[i])), due[i]);
            }
        }
    }

    private static void phaseOfEqualDays() {
        Check.sentence("of equal ones the later told");
        for (int day : new int[] {0, 50, 100000}) {
            TimeWords x = new TimeWords();
            Check.name(x, "q");
            for (int i = 1; i <= 6; i++) {
                x.phase(0, 0, 100 - i, 100, day);
                Check.due("of " + i, Check.tell(x, Check.read(x, "q", 0, day)), (100 - i) + "..100");
            }
        }
    }

    private static void noPhaseThenReign() {
        Check.sentence("if there is none, its reign");
        TimeWords x = new TimeWords();
        Check.name(x, "q");
        Check.due("neither", Check.meaning(x, "q"), "none");
        x.phase(0, 1, 5, 6, 10);
        Check.due("no phase at the place, and no reign", Check.tell(x, Check.read(x, "q", 0, 10)), "none");
        Check.due("no phase on the day, and no reign", Check.tell(x, Check.read(x, "q", 1, 9)), "none");
        x.reign(0, 1, 2);
        Check.due("no phase at the place", Check.tell(x, Check.read(x, "q", 0, 10)), "1..2");
        Check.due("no phase on the day", Check.tell(x, Check.read(x, "q", 1, 9)), "1..2");
        Check.due("a phase", Check.tell(x, Check.read(x, "q", 1, 10)), "5..6");
    }

    private static void fiveBeginnings() {
        Check.sentence("At most five such beginnings may stand ahead");
        TimeWords x = new TimeWords();
        Check.name(x, "q");
        x.reign(0, 1, 729);
        String[] due = {"1..729", "244..486", "325..405", "352..378", "361..369", "364..366"};
        for (int ahead = 0; ahead <= 5; ahead++) {
            Check.due(ahead + " ahead", Check.meaning(x, "mid ".repeat(ahead) + "q"), due[ahead]);
        }
        // A sixth leaves no sign of the pad for a word behind it; nor may what was read last stand for one.
        Check.due("none ahead again", Check.meaning(x, "q"), due[0]);
        Check.due("six ahead", Check.meaning(x, "mid ".repeat(6)), "none");
        Check.name(x, "qq");
        x.reign(1, 1, 729);
        Check.due("five ahead on a full pad", Check.meaning(x, "late late mid mid mid qq"), "376..378");
    }

    private static void relationOfSlidingSpans() {
        Check.sentence("0 before .., with a year between, 1 meets .., 2 overlaps .., 4 within, 5 around, 6 any of 0, 1, 2 the other way round");
        TimeWords x = new TimeWords();
        int still = x.span(10, 14);
        int[] longer = {0, 0, 1, 2, 2, 2, 2, 5, 5, 5, 6, 6, 6, 6, 6, 6, 6};
        int[] shorter = {0, 0, 1, 2, 2, 4, 4, 4, 6, 6, 6, 6};
        for (int i = 0; i < longer.length; i++) {
            Check.due("seven years from " + (i + 1), x.relation(x.span(i + 1, i + 7), still), longer[i]);
        }
        for (int i = 0; i < shorter.length; i++) {
            Check.due("three years from " + (i + 5), x.relation(x.span(i + 5, i + 7), still), shorter[i]);
        }
    }

    private static void relationOfSpansThatShareAnEnd() {
        Check.sentence("2 overlaps (.. not the same end), 3 is the same, 4 within (not the same), 5 around");
        TimeWords x = new TimeWords();
        int[][] spans = {{10, 14}, {10, 13}, {11, 14}, {10, 15}, {9, 14}, {9, 13}, {11, 15}, {10, 10}, {14, 14}};
        int[] due = {3, 4, 4, 5, 5, 2, 6, 4, 4};
        int[] dueOtherWay = {3, 5, 5, 4, 4, 6, 2, 5, 5};
        for (int i = 0; i < spans.length; i++) {
            x.span(spans[i][0], spans[i][1]);
            Check.due(spans[i][0] + ".." + spans[i][1] + " to 10..14", x.relation(i, 0), due[i]);
            Check.due("10..14 to " + spans[i][0] + ".." + spans[i][1], x.relation(0, i), dueOtherWay[i]);
        }
    }

    private static void indexThenArgumentThenState() {
        Check.sentence("IndexOutOfBoundsException: there is no such ..; IllegalArgumentException, then IllegalStateException, as told");
        TimeWords x = new TimeWords();
        Check.name(x, "q");
        for (int i = 0; i < 6; i++) {
            x.phase(0, 0, 1, 2, 0);
        }
        Check.read(x, "before 5c");
        while (x.count(2) < 60) {
            x.span(1, 2);
        }
        Check.type(x, "abcdefghijklmnopqrstuvwx");
        Check.noArgument("unit: no sign, no room", x, () -> x.unit(96));
        Check.noArgument("name: no name", x, x::name);
        Check.noIndex("reign: no name, no years", x, () -> x.reign(1, 2, 1) ? 1 : 0);
        Check.noIndex("phase: no name, no years, no day", x, () -> x.phase(1, 0, 2, 1, -1));
        Check.noIndex("phase: no place, no years, no room", x, () -> x.phase(0, 8, 2, 1, 0));
        Check.noIndex("phase: no place, no day, no room", x, () -> x.phase(0, -1, 1, 2, -1));
        Check.noArgument("phase: no years, no room", x, () -> x.phase(0, 0, 2, 1, 0));
        Check.noArgument("phase: no day, no room", x, () -> x.phase(0, 0, 1, 2, 100001));
        Check.noIndex("read: no place, no day, no room", x, () -> x.read(8, -1));
        Check.noArgument("read: no day, no room", x, () -> x.read(0, -1));
        Check.noArgument("span: no years, no room", x, () -> x.span(2, 1));
        Check.noIndex("end: no span, open", x, () -> x.end(60, 0));
        Check.noIndex("end: no end, open", x, () -> x.end(0, 2));
        Check.noIndex("join: no span, no room", x, () -> x.join(0, 60));
        Check.noIndex("join: no span, no room", x, () -> x.join(-1, 0));
        Check.noIndex("relation: no span, open", x, () -> x.relation(0, 60));
        Check.noIndex("relation: no span, open", x, () -> x.relation(-1, 0));
        Check.noIndex("regnal: no name, no year", x, () -> x.regnal(1, 0));
        Check.noArgument("regnal: no year, no reign", x, () -> x.regnal(0, 0));
    }
}
