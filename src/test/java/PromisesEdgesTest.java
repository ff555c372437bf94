/** Each sentence of promises 1 to 19 that names a boundary case, with a test of its own. */
public final class PromisesEdgesTest {
    private static final int NONE = TimeWords.NONE;
    private static final int MOST = Integer.MAX_VALUE;
    private static final int LEAST = Integer.MIN_VALUE;
    private static final String PADS = "abcdefghijklmnopqrstuvwx";

    public static void main(String[] args) {
        newHasNoSpans();
        newHasNoNames();
        newHasAnEmptyPad();
        newHasWidth25();
        unitIsBehindThePad();
        unitOfNoSign();
        unitOnAFullPad();
        clearTellsHowMany();
        clearLeavesTheRest();
        nameEmptiesThePad();
        nameThatItHas();
        nameOfNoRow();
        nameWith24Others();
        reignInPlaceOfAnother();
        reignOfNoName();
        reignOfNoYears();
        phaseTellsHowMany();
        phaseOfNoNameOrPlace();
        phaseOfNoYearsOrDay();
        phaseBesideSix();
        widthTellsWhatItWas();
        widthOutOfBounds();
        readEmptiesThePad();
        readOfNoWord();
        readAtNoPlace();
        readOnNoDay();
        readWithSixtySpans();
        spanOfYears();
        spanOfNoYears();
        spanWithSixty();
        endFirstOrLast();
        endOfNoSpan();
        endThatIsOpen();
        openAtAnEnd();
        openOfNoSpan();
        joinIsTheLeast();
        joinOpenWhereOneIs();
        joinOfNoSpan();
        joinWithSixty();
        relationsOfSpansOfOneYear();
        relationsOfTwoYears();
        relationsOfOpenEnds();
        relationsOfNoSpan();
        relationAtTheEdgesOfYears();
        relationOfNoSpan();
        relationOfOpenOnes();
        wordSaysJustThisSpan();
        wordAtPlace0OnDay100000();
        wordBeforeOrAfter();
        wordOpenAtBothEnds();
        wordShortestThenAhead();
        wordSigns();
        wordOfNoSpan();
        nearByEachKindOfChange();
        nearByOneChangeWherever();
        nearOfEquallyNearOnes();
        nearLeavesThePad();
        nearWithoutNames();
        nearOfEmptyAndFullPads();
        feastKth();
        feastLast();
        feastNotSoMany();
        feastLeapYears();
        feastFirstDayOfYear1();
        feastOfNone();
        regnalFirstIsOne();
        regnalOfNoName();
        regnalBelowOne();
        regnalWithoutReignOrTooShort();
        countEach();
        countOfNone();
        Check.finish();
    }

    private static TimeWords withSixtySpans() {
        TimeWords x = new TimeWords();
        while (x.count(2) < 60) {
            x.span(x.count(2), 100);
        }
        return x;
    }

    private static TimeWords withNames(String... names) {
        TimeWords x = new TimeWords();
        for (int i = 0; i < names.length; i++) {
            Check.due("the name " + names[i], Check.name(x, names[i]), i);
        }
        return x;
    }

    // Promise 1

    private static void newHasNoSpans() {
        Check.sentence("1: No spans");
        TimeWords x = new TimeWords();
        Check.due("spans", x.count(2), 0);
        Check.noIndex("the first span", x, () -> x.end(0, 0));
        Check.due("the first that is made", x.span(1, 1), 0);
    }

    private static void newHasNoNames() {
        Check.sentence("1: No .. names");
        TimeWords x = new TimeWords();
        Check.due("names", x.count(1), 0);
        Check.noIndex("the first name", x, () -> x.reign(0, 1, 1) ? 1 : 0);
        Check.due("the first that is made", Check.name(x, "a"), 0);
    }

    private static void newHasAnEmptyPad() {
        Check.sentence("1: an empty pad");
        Check.due("signs", new TimeWords().count(0), 0);
        Check.due("clear", new TimeWords().clear(), 0);
        Check.due("the first sign", new TimeWords().unit('a'), 1);
    }

    private static void newHasWidth25() {
        Check.sentence("1: the width is 25");
        Check.due("what it was", new TimeWords().width(1), 25);
        Check.due("about 5c", Check.meaning(new TimeWords(), "about 5c"), "376..525");
    }

    // Promise 2

    private static void unitIsBehindThePad() {
        Check.sentence("2: A sign behind the pad: how many it has");
        TimeWords x = new TimeWords();
        String typed = "after early early mid ab";
        Check.name(x, "ab");
        x.reign(0, 1, 90);
        for (int i = 0; i < 24; i++) {
            Check.due("sign " + i, x.unit(typed.charAt(i)), i + 1);
            Check.due("signs", x.count(0), i + 1);
        }
        Check.due("all 24 are read", Check.tell(x, x.read(0, 0)), "34..");
    }

    private static void unitOfNoSign() {
        Check.sentence("2: IllegalArgumentException: it is none");
        for (int length : new int[] {0, 1, 23, 24}) {
            TimeWords x = new TimeWords();
            Check.type(x, PADS.substring(0, length));
            for (int sign : new int[] {31, 33, 47, 58, 96, 123}) {
                Check.noArgument("unit(" + sign + ") behind " + length, x, () -> x.unit(sign));
            }
            Check.due("signs", x.count(0), length);
        }
    }

    private static void unitOnAFullPad() {
        Check.sentence("2: IllegalStateException: there are 24");
        TimeWords x = new TimeWords();
        Check.type(x, PADS.substring(0, 23));
        Check.due("sign 24", x.unit('x'), 24);
        for (int sign : new int[] {32, 48, 57, 97, 122}) {
            Check.noState("sign 25", x, () -> x.unit(sign));
        }
        Check.due("signs", x.count(0), 24);
    }

    // Promise 3

    private static void clearTellsHowMany() {
        Check.sentence("3: The pad is empty: how many signs it had");
        for (int length : new int[] {0, 1, 2, 23, 24}) {
            TimeWords x = new TimeWords();
            Check.type(x, PADS.substring(0, length));
            Check.due("clear of " + length, x.clear(), length);
            Check.due("signs", x.count(0), 0);
            Check.due("clear again", x.clear(), 0);
            Check.due("the next sign", x.unit('a'), 1);
        }
    }

    private static void clearLeavesTheRest() {
        Check.sentence("3: The pad is empty (and nothing else is)");
        TimeWords x = withNames("ab");
        x.reign(0, 5, 6);
        x.span(1, 2);
        x.width(3);
        Check.type(x, "q");
        x.clear();
        Check.due("names", x.count(1), 1);
        Check.due("spans", Check.tell(x, 0), "1..2");
        Check.due("reign", x.regnal(0, 2), 6);
        Check.due("width", x.width(0), 3);
    }

    // Promise 4

    private static void nameEmptiesThePad() {
        Check.sentence("4: The pad becomes a name, and is empty: its number");
        TimeWords x = new TimeWords();
        Check.due("of one letter", Check.name(x, "z"), 0);
        Check.due("signs", x.count(0), 0);
        Check.due("of eight letters", Check.name(x, "abcdefgh"), 1);
        Check.due("signs", x.count(0), 0);
        Check.noArgument("the empty pad is no name", x, x::name);
        x.reign(1, 7, 8);
        Check.due("it is read by all its letters", Check.meaning(x, "abcdefgh"), "7..8");
        Check.due("not by seven", Check.meaning(x, "abcdefg"), "none");
        Check.due("nor by nine", Check.meaning(x, "abcdefghi"), "none");
    }

    private static void nameThatItHas() {
        Check.sentence("4: (that which it has, if it is one)");
        TimeWords x = withNames("a", "abcdefgh", "ab");
        x.reign(1, 3, 4);
        x.phase(1, 0, 5, 6, 10);
        Check.due("again", Check.name(x, "abcdefgh"), 1);
        Check.due("signs", x.count(0), 0);
        Check.due("names", x.count(1), 3);
        Check.due("its reign stays", x.regnal(1, 2), 4);
        Check.due("its phase stays", Check.tell(x, Check.read(x, "abcdefgh", 0, 10)), "5..6");
        Check.due("the first again", Check.name(x, "a"), 0);
        Check.due("the last again", Check.name(x, "ab"), 2);
    }

    private static void nameOfNoRow() {
        Check.sentence("4: IllegalArgumentException: it is no row of 1 .. 8 letters");
        TimeWords x = withNames("a");
        for (String none : new String[] {"", "abcdefghi", PADS, "1", " ", "a1", "1a", "a ", " a", "abcdefg1", "0bcdefgh", "abcd fgh", "5c"}) {
            Check.type(x, none);
            Check.noArgument("'" + none + "'", x, x::name);
            Check.due("signs stay", x.count(0), none.length());
        }
        Check.due("names", x.count(1), 1);
    }

    private static void nameWith24Others() {
        Check.sentence("4: IllegalStateException: there are 24 others");
        TimeWords x = new TimeWords();
        for (int i = 0; i < 24; i++) {
            Check.due("name " + i, Check.name(x, "n" + PADS.charAt(i)), i);
        }
        for (String more : new String[] {"n", "ny", "naa", "zzzzzzzz"}) {
            Check.type(x, more);
            Check.noState("a 25th, " + more, x, x::name);
            Check.due("signs stay", x.count(0), more.length());
        }
        Check.due("the first is no other", Check.name(x, "na"), 0);
        Check.due("the last is no other", Check.name(x, "nx"), 23);
        Check.noArgument("with 24, of an empty pad", x, x::name);
    }

    // Promise 5

    private static void reignInPlaceOfAnother() {
        Check.sentence("5: A name's reign, in place of another one: whether it had none");
        TimeWords x = withNames("a", "b");
        Check.due("the first", x.reign(0, -9999, 9999), true);
        Check.due("a shorter one", x.reign(0, 5, 5), false);
        Check.due("its only year", x.regnal(0, 1), 5);
        Check.noState("its years are no more than one", x, () -> x.regnal(0, 2));
        Check.due("the same again", x.reign(0, 5, 5), false);
        x.phase(1, 0, 1, 1, 0);
        Check.due("the first of a name with a phase", x.reign(1, 0, 0), true);
    }

    private static void reignOfNoName() {
        Check.sentence("5: IndexOutOfBoundsException");
        TimeWords x = withNames("a", "b");
        for (int name : new int[] {LEAST, -1, 2, 24, MOST}) {
            Check.noIndex("reign of " + name, x, () -> x.reign(name, 1, 2) ? 1 : 0);
        }
        Check.due("the first name", x.reign(0, 1, 2), true);
        Check.due("the last name", x.reign(1, 1, 2), true);
    }

    private static void reignOfNoYears() {
        Check.sentence("5: IllegalArgumentException: a year, or from is above to");
        TimeWords x = withNames("a");
        int[][] wrong = {{-10000, 0}, {0, 10000}, {1, 0}, {9999, 9998}, {-9998, -9999}, {10000, 10001}, {-10001, -10000}};
        for (int[] y : wrong) {
            Check.noArgument("reign " + y[0] + ".." + y[1], x, () -> x.reign(0, y[0], y[1]) ? 1 : 0);
        }
        Check.due("it had none", x.reign(0, -9999, -9999), true);
        Check.due("it had one", x.reign(0, 9999, 9999), false);
        for (int[] y : wrong) {
            Check.noArgument("reign " + y[0] + ".." + y[1], x, () -> x.reign(0, y[0], y[1]) ? 1 : 0);
        }
        Check.due("it has that one", x.regnal(0, 1), 9999);
    }

    // Promise 6

    private static void phaseTellsHowMany() {
        Check.sentence("6: A name's phase: how many it has");
        TimeWords x = withNames("a", "b");
        for (int i = 1; i <= 6; i++) {
            Check.due("phase " + i + " of a", x.phase(0, 7, 1, 1, 100000), i);
            Check.due("phase " + i + " of b", x.phase(1, 0, i, i, 0), i);
        }
    }

    private static void phaseOfNoNameOrPlace() {
        Check.sentence("6: IndexOutOfBoundsException: name or place");
        TimeWords x = withNames("a", "b");
        for (int name : new int[] {LEAST, -1, 2, MOST}) {
            Check.noIndex("phase of name " + name, x, () -> x.phase(name, 0, 1, 2, 0));
        }
        for (int place : new int[] {LEAST, -1, 8, MOST}) {
            Check.noIndex("phase at place " + place, x, () -> x.phase(1, place, 1, 2, 0));
        }
        Check.due("the last name at the last place", x.phase(1, 7, 1, 2, 0), 1);
        Check.due("the first name at the first place", x.phase(0, 0, 1, 2, 0), 1);
    }

    private static void phaseOfNoYearsOrDay() {
        Check.sentence("6: IllegalArgumentException: a year, from is above to, or the day");
        TimeWords x = withNames("a");
        int[][] wrong = {{-10000, 0, 0}, {0, 10000, 0}, {1, 0, 0}, {-9998, -9999, 0}, {9999, 9998, 0}, {0, 0, -1}, {0, 0, 100001},
            {0, 0, LEAST}, {0, 0, MOST}};
        for (int[] w : wrong) {
            Check.noArgument("phase " + w[0] + ".." + w[1] + " of day " + w[2], x, () -> x.phase(0, 0, w[0], w[1], w[2]));
        }
        Check.due("the first year, the first day", x.phase(0, 0, -9999, -9999, 0), 1);
        Check.due("the last year, the last day", x.phase(0, 0, 9999, 9999, 100000), 2);
        Check.due("on the last day but one", Check.tell(x, Check.read(x, "a", 0, 99999)), "-9999..-9999");
        Check.due("on the last day", Check.tell(x, Check.read(x, "a", 0, 100000)), "9999..9999");
    }

    private static void phaseBesideSix() {
        Check.sentence("6: IllegalStateException: it has six");
        TimeWords x = withNames("a", "b");
        for (int i = 1; i <= 5; i++) {
            x.phase(0, 0, i, i, i);
        }
        Check.due("the sixth", x.phase(0, 0, 6, 6, 6), 6);
        Check.noState("a seventh", x, () -> x.phase(0, 0, 7, 7, 7));
        Check.noState("a seventh at another place", x, () -> x.phase(0, 5, 7, 7, 7));
        Check.due("it still has the sixth", Check.tell(x, Check.read(x, "a", 0, 100000)), "6..6");
        Check.due("the other name has none yet", x.phase(1, 0, 7, 7, 7), 1);
    }

    // Promise 7

    private static void widthTellsWhatItWas() {
        Check.sentence("7: How many years \"about\" adds: what it was");
        TimeWords x = withNames("q");
        x.reign(0, 0, 0);
        int was = 25;
        for (int width : new int[] {0, 1, 999, 1000, 25, 1000, 0}) {
            Check.due("width(" + width + ")", x.width(width), was);
            Check.due("about year 0", Check.meaning(x, "about q"), -width + ".." + width);
            was = width;
        }
    }

    private static void widthOutOfBounds() {
        Check.sentence("7: IllegalArgumentException: it is not 0 .. 1000");
        TimeWords x = new TimeWords();
        for (int width : new int[] {LEAST, -1000, -1, 1001, MOST}) {
            Check.noArgument("width(" + width + ")", x, () -> x.width(width));
        }
        Check.due("it is as it was", x.width(0), 25);
    }

    // Promise 8

    private static void readEmptiesThePad() {
        Check.sentence("8: Reads the pad as a word; the pad is empty then: a span's number");
        TimeWords x = new TimeWords();
        for (int i = 0; i < 60; i++) {
            Check.type(x, "5c");
            Check.due("read " + i, x.read(7, 100000), i);
            Check.due("signs", x.count(0), 0);
        }
        Check.due("the last of them", Check.tell(x, 59), "401..500");
    }

    private static void readOfNoWord() {
        Check.sentence("8: NONE if it is no word (no span is made)");
        TimeWords x = withNames("q");
        for (String none : new String[] {"", " ", "q", "qq", "0c", "100c", "early q", "before q", PADS, "5c ", "late"}) {
            Check.type(x, none);
            Check.due("read of '" + none + "'", x.read(0, 0), NONE);
            Check.due("the pad is empty, too", x.count(0), 0);
            Check.due("spans", x.count(2), 0);
        }
        Check.due("the next is the first", Check.read(x, "5c"), 0);
    }

    private static void readAtNoPlace() {
        Check.sentence("8: IndexOutOfBoundsException: place");
        TimeWords x = new TimeWords();
        Check.type(x, "5c");
        for (int place : new int[] {LEAST, -1, 8, MOST}) {
            Check.noIndex("read at " + place, x, () -> x.read(place, 0));
        }
        Check.due("the pad is as it was", Check.tell(x, x.read(7, 0)), "401..500");
    }

    private static void readOnNoDay() {
        Check.sentence("8: IllegalArgumentException: day");
        TimeWords x = new TimeWords();
        Check.type(x, "5c");
        for (int day : new int[] {LEAST, -1, 100001, MOST}) {
            Check.noArgument("read on " + day, x, () -> x.read(0, day));
        }
        Check.due("the pad is as it was", Check.tell(x, x.read(0, 100000)), "401..500");
    }

    private static void readWithSixtySpans() {
        Check.sentence("8: IllegalStateException: there are 60 spans");
        TimeWords x = new TimeWords();
        while (x.count(2) < 59) {
            x.span(1, 1);
        }
        Check.due("no word, with 59", Check.read(x, "0c"), NONE);
        Check.due("the 60th", Check.read(x, "5c"), 59);
        for (String text : new String[] {"5c", "0c", ""}) {
            Check.type(x, text);
            Check.noState("a 61st from '" + text + "'", x, () -> x.read(0, 0));
            Check.due("signs stay", x.count(0), text.length());
        }
    }

    // Promise 9

    private static void spanOfYears() {
        Check.sentence("9: A span of years: its number");
        TimeWords x = new TimeWords();
        int[][] spans = {{-9999, -9999}, {-9999, 9999}, {9999, 9999}, {-1, 0}, {0, 0}, {0, 1}, {-9999, -9998}, {9998, 9999}};
        for (int i = 0; i < spans.length; i++) {
            Check.due("number", x.span(spans[i][0], spans[i][1]), i);
        }
        for (int i = 0; i < spans.length; i++) {
            Check.due("years of " + i, Check.tell(x, i), spans[i][0] + ".." + spans[i][1]);
        }
    }

    private static void spanOfNoYears() {
        Check.sentence("9: IllegalArgumentException: a year, or from is above to");
        TimeWords x = new TimeWords();
        int[][] wrong = {{-10000, 0}, {0, 10000}, {-10000, -10000}, {10000, 10000}, {1, 0}, {0, -1}, {9999, 9998}, {-9998, -9999}, {LEAST, 0},
            {0, MOST}, {MOST, LEAST}};
        for (int[] y : wrong) {
            Check.noArgument("span " + y[0] + ".." + y[1], x, () -> x.span(y[0], y[1]));
        }
        Check.due("spans", x.count(2), 0);
    }

    private static void spanWithSixty() {
        Check.sentence("9: IllegalStateException: there are 60");
        TimeWords x = withSixtySpans();
        Check.noState("a 61st", x, () -> x.span(1, 1));
        Check.noState("a 61st that there is", x, () -> x.span(0, 100));
        Check.due("the last", Check.tell(x, 59), "59..100");
    }

    // Promises 10 and 11

    private static void endFirstOrLast() {
        Check.sentence("10: The first (0) or last year (1) of a span");
        TimeWords x = withSixtySpans();
        Check.due("first of the first", x.end(0, 0), 0);
        Check.due("last of the first", x.end(0, 1), 100);
        Check.due("first of the last", x.end(59, 0), 59);
        Check.due("last of the last", x.end(59, 1), 100);
    }

    private static void endOfNoSpan() {
        Check.sentence("10: IndexOutOfBoundsException");
        TimeWords x = new TimeWords();
        Check.noIndex("without spans", x, () -> x.end(0, 0));
        x.span(1, 2);
        x.span(3, 4);
        for (int span : new int[] {LEAST, -1, 2, MOST}) {
            Check.noIndex("of span " + span, x, () -> x.end(span, 0));
            Check.noIndex("of span " + span, x, () -> x.end(span, 1));
        }
        for (int which : new int[] {LEAST, -1, 2, MOST}) {
            Check.noIndex("end " + which, x, () -> x.end(1, which));
        }
        TimeWords full = withSixtySpans();
        Check.noIndex("of span 60", full, () -> full.end(60, 0));
    }

    private static void endThatIsOpen() {
        Check.sentence("10: IllegalStateException: it is open there");
        TimeWords x = withNames("q");
        x.reign(0, -9998, 9998);
        Check.due("before q", Check.read(x, "before q"), 0);
        Check.due("after q", Check.read(x, "after q"), 1);
        Check.noState("the first of what is before", x, () -> x.end(0, 0));
        Check.due("the last of what is before", x.end(0, 1), -9999);
        Check.due("the first of what is after", x.end(1, 0), 9999);
        Check.noState("the last of what is after", x, () -> x.end(1, 1));
    }

    private static void openAtAnEnd() {
        Check.sentence("11: Whether a span is open at an end");
        TimeWords x = new TimeWords();
        x.span(-9999, 9999);
        Check.read(x, "before 1c");
        Check.read(x, "after 99c");
        x.join(1, 2);
        x.join(0, 1);
        x.join(0, 2);
        boolean[][] due = {{false, false}, {true, false}, {false, true}, {true, true}, {true, false}, {false, true}};
        for (int i = 0; i < due.length; i++) {
            Check.due("span " + i + " at the first", x.open(i, 0), due[i][0]);
            Check.due("span " + i + " at the last", x.open(i, 1), due[i][1]);
        }
    }

    private static void openOfNoSpan() {
        Check.sentence("11: IndexOutOfBoundsException");
        TimeWords x = new TimeWords();
        Check.noIndex("without spans", x, () -> x.open(0, 0) ? 1 : 0);
        x.span(1, 2);
        for (int span : new int[] {LEAST, -1, 1, MOST}) {
            Check.noIndex("of span " + span, x, () -> x.open(span, 0) ? 1 : 0);
            Check.noIndex("of span " + span, x, () -> x.open(span, 1) ? 1 : 0);
        }
        for (int which : new int[] {LEAST, -1, 2, MOST}) {
            Check.noIndex("end " + which, x, () -> x.open(0, which) ? 1 : 0);
        }
    }

    // Promise 12

    private static void joinIsTheLeast() {
        Check.sentence("12: The least span that holds both: its number");
        int[][] cases = {{1, 5, 10, 12, 1, 12}, {1, 5, 6, 6, 1, 6}, {1, 5, 5, 9, 1, 9}, {1, 9, 3, 4, 1, 9}, {1, 9, 1, 9, 1, 9},
            {1, 9, 1, 4, 1, 9}, {1, 9, 4, 9, 1, 9},
            {-9999, -9999, 9999, 9999, -9999, 9999}, {0, 0, 0, 0, 0, 0}};
        for (int[] c : cases) {
            TimeWords x = new TimeWords();
            x.span(c[0], c[1]);
            x.span(c[2], c[3]);
            Check.due("number", x.join(0, 1), 2);
            Check.due("number the other way", x.join(1, 0), 3);
            Check.due("years", Check.tell(x, 2), c[4] + ".." + c[5]);
            Check.due("years the other way", Check.tell(x, 3), c[4] + ".." + c[5]);
            Check.due("the one stays", Check.tell(x, 0), c[0] + ".." + c[1]);
            Check.due("the other stays", Check.tell(x, 1), c[2] + ".." + c[3]);
        }
    }

    private static void joinOpenWhereOneIs() {
        Check.sentence("12: (open where one is)");
        TimeWords x = new TimeWords();
        x.span(-9999, 9999);
        Check.read(x, "before 5c");
        Check.read(x, "after 5c");
        x.span(500, 600);
        int both = x.join(1, 2);
        String[][] due = {{"-9999..9999", "..9999", "-9999..", "-9999..9999", ".."}, {"..9999", "..400", "..", "..600", ".."},
            {"-9999..", "..", "501..", "500..", ".."}, {"-9999..9999", "..600", "500..", "500..600", ".."}, {"..", "..", "..", "..", ".."}};
        for (int a = 0; a <= both; a++) {
            for (int b = 0; b <= both; b++) {
                Check.due("join(" + a + ", " + b + ")", Check.tell(x, x.join(a, b)), due[a][b]);
            }
        }
    }

    private static void joinOfNoSpan() {
        Check.sentence("12: IndexOutOfBoundsException");
        TimeWords x = new TimeWords();
        Check.noIndex("without spans", x, () -> x.join(0, 0));
        x.span(1, 2);
        for (int span : new int[] {LEAST, -1, 1, MOST}) {
            Check.noIndex("join(" + span + ", 0)", x, () -> x.join(span, 0));
            Check.noIndex("join(0, " + span + ")", x, () -> x.join(0, span));
            Check.noIndex("join(" + span + ", " + span + ")", x, () -> x.join(span, span));
        }
    }

    private static void joinWithSixty() {
        Check.sentence("12: IllegalStateException: there are 60");
        TimeWords x = new TimeWords();
        while (x.count(2) < 59) {
            x.span(x.count(2), 100);
        }
        Check.due("the 60th", x.join(0, 58), 59);
        Check.noState("a 61st", x, () -> x.join(0, 1));
        Check.noState("a 61st", x, () -> x.join(59, 59));
        Check.due("spans", x.count(2), 60);
    }

    // Promises 13 and 14

    private static void relationsOfSpansOfOneYear() {
        Check.sentence("13: if each is some span of one or more years that lies within what is told: of one year, it is told");
        TimeWords x = new TimeWords();
        int still = x.span(10, 10);
        int[] due = {1, 1, 2, 8, 64, 64, 64};
        for (int i = 0; i < due.length; i++) {
            int year = 7 + i;
            int span = x.span(year, year);
            Check.due("year " + year + " to year 10", x.relations(span, still), due[i]);
            Check.due("and it is just that", 1 << x.relation(span, still), due[i]);
        }
    }

    private static void relationsOfTwoYears() {
        Check.sentence("13: In which relations the true span may stand to the other true one: bits 0 .. 6");
        TimeWords x = new TimeWords();
        int still = x.span(10, 11);
        int[] due = {1, 1 | 2, 1 | 2 | 4 | 8 | 16 | 32, 2 | 8 | 16 | 32 | 64, 8 | 16 | 32 | 64, 64, 64};
        for (int i = 0; i < due.length; i++) {
            int from = 7 + i;
            int span = x.span(from, from + 1);
            Check.due("two years from " + from + " to 10..11", x.relations(span, still), due[i]);
        }
    }

    private static void relationsOfOpenEnds() {
        Check.sentence("13: (an open end: as far as years go)");
        TimeWords x = withNames("q");
        x.reign(0, -9998, 9998);
        int first = Check.read(x, "before q");
        int last = Check.read(x, "after q");
        int firstYear = x.span(-9999, -9999);
        int lastYear = x.span(9999, 9999);
        Check.due("open, but the first year alone", x.relations(first, firstYear), 8);
        Check.due("open, but the first year alone, to itself", x.relations(first, first), 8);
        Check.due("open, but the last year alone", x.relations(last, lastYear), 8);
        Check.due("the first year to the last", x.relations(first, last), 1);
        Check.due("the last year to the first", x.relations(last, first), 64);
        int second = x.span(-9998, -9998);
        Check.due("the first year to the second", x.relations(first, second), 2);
        x.reign(0, -9997, 9997);
        int two = Check.read(x, "before q");
        Check.due("two years to the first year", x.relations(two, firstYear), 8 | 32 | 64);
        Check.due("the first year to two years", x.relations(firstYear, two), 2 | 8 | 16);
        int lastTwo = Check.read(x, "after q");
        Check.due("the last two to the last year", x.relations(lastTwo, lastYear), 2 | 8 | 32);
        Check.due("the last year to the last two", x.relations(lastYear, lastTwo), 8 | 16 | 64);
        int both = x.join(first, last);
        Check.due("open at both ends to the first year", x.relations(both, firstYear), 8 | 32 | 64);
        Check.due("open at both ends to the last year", x.relations(both, lastYear), 1 | 2 | 8 | 32);
        Check.due("open at both ends to itself", x.relations(both, both), 127);
    }

    private static void relationsOfNoSpan() {
        Check.sentence("13: IndexOutOfBoundsException");
        TimeWords x = new TimeWords();
        Check.noIndex("without spans", x, () -> x.relations(0, 0));
        x.span(1, 2);
        for (int span : new int[] {LEAST, -1, 1, MOST}) {
            Check.noIndex("relations(" + span + ", 0)", x, () -> x.relations(span, 0));
            Check.noIndex("relations(0, " + span + ")", x, () -> x.relations(0, span));
        }
    }

    private static void relationAtTheEdgesOfYears() {
        Check.sentence("14: In which relation span a stands to b: 0 .. 6");
        TimeWords x = new TimeWords();
        int[][] spans = {{-9999, 9999}, {-9999, -9999}, {9999, 9999}, {-9999, 0}, {1, 9999}, {2, 9999}, {0, 1}};
        for (int[] years : spans) {
            x.span(years[0], years[1]);
        }
        int[][] due = {{3, 5, 5, 5, 5, 5, 5}, {4, 3, 0, 4, 0, 0, 0}, {4, 6, 3, 6, 4, 4, 6}, {4, 5, 0, 3, 1, 0, 2},
            {4, 6, 5, 6, 3, 5, 6}, {4, 6, 5, 6, 4, 3, 6}, {4, 6, 0, 6, 2, 1, 3}};
        for (int a = 0; a < spans.length; a++) {
            for (int b = 0; b < spans.length; b++) {
                Check.due("relation(" + a + ", " + b + ")", x.relation(a, b), due[a][b]);
            }
        }
    }

    private static void relationOfNoSpan() {
        Check.sentence("14: IndexOutOfBoundsException");
        TimeWords x = new TimeWords();
        Check.noIndex("without spans", x, () -> x.relation(0, 0));
        x.span(1, 2);
        for (int span : new int[] {LEAST, -1, 1, MOST}) {
            Check.noIndex("relation(" + span + ", 0)", x, () -> x.relation(span, 0));
            Check.noIndex("relation(0, " + span + ")", x, () -> x.relation(0, span));
        }
    }

    private static void relationOfOpenOnes() {
        Check.sentence("14: IllegalStateException: one is open");
        TimeWords x = new TimeWords();
        x.span(-9999, 9999);
        Check.read(x, "before 5c");
        Check.read(x, "after 5c");
        x.join(1, 2);
        for (int open = 1; open <= 3; open++) {
            int span = open;
            Check.noState("relation(" + open + ", 0)", x, () -> x.relation(span, 0));
            Check.noState("relation(0, " + open + ")", x, () -> x.relation(0, span));
            Check.noState("relation(" + open + ", " + open + ")", x, () -> x.relation(span, span));
        }
        Check.due("none is open", x.relation(0, 0), 3);
    }

    // Promise 15

    private static void wordSaysJustThisSpan() {
        Check.sentence("15: the shortest word that says just this span: a century; a third of one; a name");
        int[][] spans = {{1, 100}, {0, 100}, {2, 100}, {1, 99}, {1, 101}, {9801, 9900}, {9802, 9900}, {9801, 9899}, {9901, 9999}, {-99, 0},
            {1, 33}, {1, 32}, {1, 34}, {34, 66}, {34, 67}, {67, 100}, {66, 100}, {9801, 9833}, {9834, 9866}, {9867, 9900}, {1, 11}, {5, 5},
            {5, 6}, {4, 5},
            {801, 900}, {901, 1000}, {1001, 1100}, {1901, 2000}, {8901, 9000}, {9701, 9800}, {9901, 9933}, {9934, 9966}, {-99, -67}, {-33, 0}};
        String[] due = {"1c", "none", "none", "none", "none", "99c", "none", "none", "none", "none",
            "early 1c", "none", "none", "mid 1c", "none", "late 1c", "none", "early 99c", "mid 99c", "late 99c", "none", "q", "none", "none",
            "9c", "10c", "11c", "20c", "90c", "98c", "none", "none", "none", "none"};
        TimeWords x = withNames("q");
        x.reign(0, 5, 5);
        for (int i = 0; i < spans.length; i++) {
            Check.due(spans[i][0] + ".." + spans[i][1], Check.say(x, x.span(spans[i][0], spans[i][1])), due[i]);
        }
    }

    private static void wordAtPlace0OnDay100000() {
        Check.sentence("15: at place 0 on day 100000");
        TimeWords x = withNames("q");
        int reign = x.span(5, 5);
        int early = x.span(6, 6);
        int late = x.span(7, 7);
        int elsewhere = x.span(8, 8);
        x.reign(0, 5, 5);
        x.phase(0, 1, 8, 8, 0);
        wordsAre(x, new int[] {reign, early, late, elsewhere}, "q", "none", "none", "none");
        x.phase(0, 0, 6, 6, 99999);
        wordsAre(x, new int[] {reign, early, late, elsewhere}, "none", "q", "none", "none");
        x.phase(0, 0, 7, 7, 100000);
        wordsAre(x, new int[] {reign, early, late, elsewhere}, "none", "none", "q", "none");
    }

    private static void wordsAre(TimeWords x, int[] spans, String... due) {
        for (int i = 0; i < spans.length; i++) {
            Check.due("word of span " + spans[i], Check.say(x, spans[i]), due[i]);
        }
    }

    private static void wordBeforeOrAfter() {
        Check.sentence("15: \"before\" or \"after\" one of these (for one that is open at one end)");
        TimeWords x = withNames("q", "first", "last");
        x.reign(0, -5, 5);
        x.reign(1, -9998, 9999);
        x.reign(2, -9999, 9998);
        String[] read = {"before 1c", "after 99c", "before late 99c", "after early 1c", "before q", "after q", "before first", "after last",
            "before early 2c", "after late 2c", "before about 2c"};
        String[] due = {"before 1c", "after 99c", "before late 99c", "after early 1c", "before q", "after q", "before first", "after last",
            "before 2c", "after 2c", "none"};
        for (int i = 0; i < read.length; i++) {
            Check.due("word of " + read[i], Check.say(x, Check.read(x, read[i])), due[i]);
        }
    }

    private static void wordOpenAtBothEnds() {
        Check.sentence("15: NONE if there is none such: open at both ends, or at one with no year or century beyond the other");
        TimeWords x = withNames("q");
        x.reign(0, -9999, 9999);
        Check.read(x, "before 5c");
        Check.read(x, "after 5c");
        x.span(-9999, 9999);
        Check.due("all years, not open", Check.say(x, 2), "q");
        int both = x.join(0, 1);
        int toLast = x.join(0, 2);
        int fromFirst = x.join(1, 2);
        x.span(9801, 9900);
        int toLastCentury = x.join(0, x.count(2) - 1);
        x.span(1, 500);
        int fromFirstCentury = x.join(1, x.count(2) - 1);
        for (int span : new int[] {both, toLast, fromFirst, toLastCentury, fromFirstCentury}) {
            Check.due("length", x.word(span, NONE), NONE);
            Check.noIndex("its first sign", x, () -> x.word(span, 0));
        }
    }

    private static void wordShortestThenAhead() {
        Check.sentence("15: of the shortest ones the one ahead in order (signs by their numbers)");
        TimeWords x = new TimeWords();
        int span = x.span(401, 433);
        String[] names = {"zzzzzzzz", "zzzzzzzy", "fzzzzzzz", "earlz", "earlya", "z", "y", "yy", "a", "b"};
        String[] due = {"early 5c", "early 5c", "early 5c", "earlz", "earlz", "z", "y", "y", "a", "a"};
        for (int i = 0; i < names.length; i++) {
            x.reign(Check.name(x, names[i]), 401, 433);
            Check.due("with " + names[i], Check.say(x, span), due[i]);
        }
        TimeWords y = withNames("earlzzzz", "ez", "earlxaaa", "e");
        int third = y.span(401, 433);
        y.reign(0, 401, 433);
        Check.due("a space is ahead of letters, but y of z", Check.say(y, third), "early 5c");
        y.reign(2, 401, 433);
        Check.due("x is ahead of y", Check.say(y, third), "earlxaaa");
        int century = y.span(401, 500);
        y.reign(1, 401, 500);
        Check.due("a digit is ahead of letters", Check.say(y, century), "5c");
        y.reign(3, 401, 500);
        Check.due("one sign is less than two", Check.say(y, century), "e");
    }

    private static void wordSigns() {
        Check.sentence("15: Sign i; i = NONE: its length; IndexOutOfBoundsException: there is no such sign");
        TimeWords x = new TimeWords();
        Check.read(x, "before early 12c");
        x.span(0, 0);
        Check.read(x, "before mid 12c");
        String due = "before mid 12c";
        Check.due("length", x.word(2, NONE), due.length());
        for (int i = 0; i < due.length(); i++) {
            Check.due("sign " + i, x.word(2, i), due.charAt(i));
        }
        for (int i : new int[] {LEAST, -2, due.length(), due.length() + 1, 24, MOST}) {
            Check.noIndex("sign " + i, x, () -> x.word(2, i));
        }
        Check.due("length of none", x.word(1, NONE), NONE);
        for (int i : new int[] {LEAST, -2, 0, 1, MOST}) {
            Check.noIndex("sign " + i + " of none", x, () -> x.word(1, i));
        }
    }

    private static void wordOfNoSpan() {
        Check.sentence("15: IndexOutOfBoundsException: span");
        TimeWords x = new TimeWords();
        Check.noIndex("without spans", x, () -> x.word(0, NONE));
        x.span(1, 100);
        for (int span : new int[] {LEAST, -1, 1, MOST}) {
            Check.noIndex("length of span " + span, x, () -> x.word(span, NONE));
            Check.noIndex("sign of span " + span, x, () -> x.word(span, 0));
        }
    }

    // Promise 16

    private static void nearByEachKindOfChange() {
        Check.sentence("16: The name that is nearest to the pad by letters changed, put in or left out");
        TimeWords x = withNames("abcdefgh", "mnop", "z");
        String[] pads = {"abcdefgh", "abcdefgx", "bcdefgh", "abcdefghx", "xabcdefgh", "mnop", "mnp", "mnoop", "onmp", "z", "zz", "y", "mz"};
        int[] due = {0, 0, 0, 0, 0, 1, 1, 1, 1, 2, 2, 2, 2};
        for (int i = 0; i < pads.length; i++) {
            Check.type(x, pads[i]);
            Check.due("near '" + pads[i] + "'", x.near(), due[i]);
        }
        String[] longNames = {"abcdefgx", "xbcdefgh", "abcdefgh", "abcdefg", "bcdefgh"};
        TimeWords w = withNames(longNames);
        for (int i = 0; i < longNames.length; i++) {
            Check.type(w, longNames[i]);
            Check.due("near '" + longNames[i] + "' itself", w.near(), i);
        }
        // Two letters that change places are two changes: as near as a name with two other letters.
        TimeWords y = withNames("abcz", "bacd");
        Check.type(y, "abcd");
        Check.due("one change is less than a swap", y.near(), 0);
        TimeWords z = withNames("abzz", "bacd");
        Check.type(z, "abcd");
        Check.due("two changes are a swap", z.near(), 0);
    }

    private static void nearByOneChangeWherever() {
        Check.sentence("16: by letters changed, put in or left out: each is one, at the beginning, within and at the end");
        String[] byOne = {"xbcd", "axcd", "abcx", "xabcd", "abxcd", "abcdx", "bcd", "acd", "abc"};
        for (String one : byOne) {
            for (String other : byOne) {
                TimeWords x = one.equals(other) ? withNames(one) : withNames(one, other);
                Check.type(x, "abcd");
                Check.due("'abcd' is as near to " + one + " as to " + other, x.near(), 0);
            }
            for (String byTwo : new String[] {"xbcx", "xxabcd", "abcdxx", "xabcdx", "ab", "cd", "bc", "ad", "bxcd", "abdx"}) {
                TimeWords x = withNames(byTwo, one);
                Check.type(x, "abcd");
                Check.due("'abcd' is nearer to " + one + " than to " + byTwo, x.near(), 1);
            }
        }
    }

    private static void nearOfEquallyNearOnes() {
        Check.sentence("16: of equally near ones the lowest");
        String[][] names = {{"ab", "ac", "ad"}, {"ad", "ac", "ab"}, {"b", "a", "c"}, {"axx", "ax", "xa"}};
        int[] due = {0, 0, 0, 1};
        for (int i = 0; i < names.length; i++) {
            TimeWords x = withNames(names[i]);
            Check.type(x, "x");
            Check.due("near 'x', case " + i, x.near(), due[i]);
        }
    }

    private static void nearLeavesThePad() {
        Check.sentence("16: the pad (which stays)");
        TimeWords x = withNames("q");
        Check.type(x, "after early 12c");
        Check.due("near", x.near(), 0);
        Check.due("signs", x.count(0), 15);
        Check.due("near again", x.near(), 0);
        Check.due("the word", Check.tell(x, x.read(0, 0)), "1134..");
    }

    private static void nearWithoutNames() {
        Check.sentence("16: NONE without names");
        TimeWords x = new TimeWords();
        Check.due("of an empty pad", x.near(), NONE);
        Check.type(x, PADS);
        Check.due("of a full pad", x.near(), NONE);
        Check.name(x, "q");
        Check.due("of an empty pad with one name", x.near(), 0);
    }

    private static void nearOfEmptyAndFullPads() {
        Check.sentence("16: The name that is nearest to the pad: an empty pad, a full one, 24 names");
        TimeWords x = withNames("abcdefgh", "bbb", "aa", "zz");
        Check.due("an empty pad is nearest to the first of the shortest", x.near(), 2);
        Check.type(x, "z".repeat(24));
        Check.due("a full pad", x.near(), 3);
        Check.type(x, "abcdefgh".repeat(3));
        Check.due("a full pad", x.near(), 0);
        Check.type(x, "0".repeat(24));
        Check.due("a full pad of digits is as far from all", x.near(), 0);
        TimeWords y = new TimeWords();
        for (int i = 0; i < 24; i++) {
            Check.name(y, PADS.charAt(i) + "q");
        }
        Check.type(y, "xq");
        Check.due("the last of 24 names", y.near(), 23);
        Check.type(y, "yq");
        Check.due("the first of 24 names", y.near(), 0);
    }

    // Promise 17

    private static void feastKth() {
        Check.sentence("17: the k-th (1 .. 5) of the days of the week (0 Monday .. 6 Sunday) in a month (1 .. 12) of a year");
        TimeWords x = new TimeWords();
        // January of 2024 begins on a Monday, December of 2023 on a Friday.
        for (int weekday = 0; weekday < 7; weekday++) {
            for (int k = 1; k <= 5; k++) {
                int january = weekday + 1 + 7 * (k - 1);
                Check.due("January 2024, " + weekday + ", " + k, x.feast(2024, 1, weekday, k), january <= 31 ? january : 0);
                int december = (weekday + 3) % 7 + 1 + 7 * (k - 1);
                Check.due("December 2023, " + weekday + ", " + k, x.feast(2023, 12, weekday, k), december <= 31 ? december : 0);
            }
        }
        Check.due("the first year", x.feast(-9999, 1, 0, 1), 1);
        Check.due("the last year", x.feast(9999, 12, 4, 5), 31);
    }

    private static void feastLast() {
        Check.sentence("17: k = NONE: the last one");
        TimeWords x = new TimeWords();
        // February 2023 has four of each, from Wednesday 1 to Tuesday 28; February 2024 a fifth Thursday.
        int[] due2023 = {27, 28, 22, 23, 24, 25, 26};
        int[] due2024 = {26, 27, 28, 29, 23, 24, 25};
        for (int weekday = 0; weekday < 7; weekday++) {
            Check.due("February 2023, " + weekday, x.feast(2023, 2, weekday, NONE), due2023[weekday]);
            Check.due("February 2024, " + weekday, x.feast(2024, 2, weekday, NONE), due2024[weekday]);
        }
        Check.due("the last day of a month of 31", x.feast(2000, 12, 6, NONE), 31);
        Check.due("the last day of a month of 30", x.feast(2000, 11, 3, NONE), 30);
    }

    private static void feastNotSoMany() {
        Check.sentence("17: 0 if there are not so many");
        TimeWords x = new TimeWords();
        int[][] fifths = {{2023, 2, 2, 0}, {2023, 2, 1, 0}, {2024, 2, 3, 29}, {2024, 2, 2, 0}, {2024, 2, 4, 0}, {2026, 11, 6, 29},
            {2026, 11, 0, 30}, {2026, 11, 1, 0}, {2026, 11, 5, 0},
            {2026, 12, 1, 29}, {2026, 12, 3, 31}, {2026, 12, 4, 0}, {2026, 12, 0, 0}};
        for (int[] f : fifths) {
            Check.due("the fifth " + f[2] + " of " + f[0] + ", " + f[1], x.feast(f[0], f[1], f[2], 5), f[3]);
        }
        for (int weekday = 0; weekday < 7; weekday++) {
            Check.due("there are always four", x.feast(2023, 2, weekday, 4) > 0, true);
        }
    }

    private static void feastLeapYears() {
        Check.sentence("17: in the calendar with leap years by 4, 100, 400");
        int[] leap = {-9996, -9600, -2000, -400, -396, -8, -4, 0, 4, 8, 396, 400, 1600, 1996, 2000, 2004, 2024, 9600, 9996};
        int[] plain = {-9999, -9900, -500, -300, -100, -99, -3, -2, -1, 1, 2, 3, 5, 99, 100, 200, 300, 500, 1700, 1900, 1999, 2001, 2023, 2100, 9900, 9999};
        for (int year : leap) {
            Check.due("five of a day in February of " + year, fivesOfFebruary(year), 1);
        }
        for (int year : plain) {
            Check.due("five of a day in February of " + year, fivesOfFebruary(year), 0);
        }
    }

    private static int fivesOfFebruary(int year) {
        TimeWords x = new TimeWords();
        int fives = 0;
        for (int weekday = 0; weekday < 7; weekday++) {
            fives += x.feast(year, 2, weekday, 5) > 0 ? 1 : 0;
        }
        return fives;
    }

    private static void feastFirstDayOfYear1() {
        Check.sentence("17: in which the first day of year 1 is a Monday");
        TimeWords x = new TimeWords();
        for (int weekday = 0; weekday < 7; weekday++) {
            Check.due("January of year 1", x.feast(1, 1, weekday, 1), weekday + 1);
        }
        Check.due("the day ahead of it is a Sunday", x.feast(0, 12, 6, NONE), 31);
        Check.due("the last day of year 1 is a Monday", x.feast(1, 12, 0, NONE), 31);
        Check.due("the first day of year 2 is a Tuesday", x.feast(2, 1, 1, 1), 1);
        Check.due("the first day of year 0 is a Saturday", x.feast(0, 1, 5, 1), 1);
        Check.due("the last day of year -1 is a Friday", x.feast(-1, 12, 4, NONE), 31);
        Check.due("the first day of year 401 is a Monday", x.feast(401, 1, 0, 1), 1);
        Check.due("the first day of year -399 is a Monday", x.feast(-399, 1, 0, 1), 1);
    }

    private static void feastOfNone() {
        Check.sentence("17: IllegalArgumentException: one is none of these");
        TimeWords x = new TimeWords();
        for (int year : new int[] {LEAST, -10000, 10000, MOST}) {
            Check.noArgument("year " + year, x, () -> x.feast(year, 1, 0, 1));
        }
        for (int month : new int[] {LEAST, -1, 0, 13, MOST}) {
            Check.noArgument("month " + month, x, () -> x.feast(1, month, 0, 1));
        }
        for (int weekday : new int[] {LEAST, -1, 7, MOST}) {
            Check.noArgument("day of the week " + weekday, x, () -> x.feast(1, 1, weekday, 1));
        }
        for (int k : new int[] {LEAST, -2, 0, 6, MOST}) {
            Check.noArgument("k " + k, x, () -> x.feast(1, 1, 0, k));
        }
    }

    // Promise 18

    private static void regnalFirstIsOne() {
        Check.sentence("18: The year in which year n of a name's reign is (its first one is 1)");
        TimeWords x = withNames("q");
        int[][] cases = {{-9999, 9999, 1, -9999}, {-9999, 9999, 2, -9998}, {-9999, 9999, 10000, 0}, {-9999, 9999, 19998, 9998},
            {-9999, 9999, 19999, 9999}, {-1, 1, 1, -1}, {-1, 1, 2, 0}, {-1, 1, 3, 1}, {7, 7, 1, 7}};
        for (int[] c : cases) {
            x.reign(0, c[0], c[1]);
            Check.due("year " + c[2] + " of " + c[0] + ".." + c[1], x.regnal(0, c[2]), c[3]);
        }
    }

    private static void regnalOfNoName() {
        Check.sentence("18: IndexOutOfBoundsException");
        TimeWords x = new TimeWords();
        Check.noIndex("without names", x, () -> x.regnal(0, 1));
        Check.name(x, "q");
        x.reign(0, 1, 2);
        for (int name : new int[] {LEAST, -1, 1, MOST}) {
            Check.noIndex("name " + name, x, () -> x.regnal(name, 1));
            Check.noIndex("name " + name + ", no year", x, () -> x.regnal(name, 0));
        }
    }

    private static void regnalBelowOne() {
        Check.sentence("18: IllegalArgumentException: n is below 1");
        TimeWords x = withNames("q", "none");
        x.reign(0, -9999, 9999);
        for (int n : new int[] {LEAST, -1, 0}) {
            Check.noArgument("year " + n, x, () -> x.regnal(0, n));
            Check.noArgument("year " + n + " of none", x, () -> x.regnal(1, n));
        }
    }

    private static void regnalWithoutReignOrTooShort() {
        Check.sentence("18: IllegalStateException: the name has no reign, or that is too short");
        TimeWords x = withNames("q", "none");
        x.phase(1, 0, 1, 100, 0);
        Check.noState("no reign, a phase", x, () -> x.regnal(1, 1));
        int[][] reigns = {{7, 7}, {-1, 1}, {-9999, 9999}, {9999, 9999}, {-9999, -9999}};
        for (int[] y : reigns) {
            x.reign(0, y[0], y[1]);
            int years = y[1] - y[0] + 1;
            Check.due("the last year", x.regnal(0, years), y[1]);
            Check.noState("the year behind it", x, () -> x.regnal(0, years + 1));
            Check.noState("the greatest n", x, () -> x.regnal(0, MOST));
        }
    }

    // Promise 19

    private static void countEach() {
        Check.sentence("19: 0 signs of the pad, 1 names, 2 spans");
        TimeWords x = withSixtySpans();
        for (int i = 0; i < 24; i++) {
            Check.name(x, "n" + PADS.charAt(i));
            Check.due("names", x.count(1), i + 1);
        }
        Check.due("signs of the empty pad", x.count(0), 0);
        Check.type(x, PADS);
        Check.due("signs of the full pad", x.count(0), 24);
        Check.due("spans", x.count(2), 60);
    }

    private static void countOfNone() {
        Check.sentence("19: IndexOutOfBoundsException: none of these");
        TimeWords x = new TimeWords();
        for (int what : new int[] {LEAST, -1, 3, MOST}) {
            Check.noIndex("count(" + what + ")", x, () -> x.count(what));
        }
    }
}
