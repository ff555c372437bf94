import java.time.DayOfWeek;
import java.time.LocalDate;
import java.time.temporal.TemporalAdjusters;
import java.util.ArrayList;
import java.util.List;

/** Each promise of the document: ordinary inputs, the edges that it names, wrong inputs. */
public final class PromisesTest {
    private static final int MOST = Integer.MAX_VALUE;
    private static final int LEAST = Integer.MIN_VALUE;

    public static void main(String[] args) {
        newObject();
        unit();
        clear();
        name();
        reign();
        phase();
        width();
        readCenturies();
        readThirds();
        readAbout();
        readBeforeAndAfter();
        readNames();
        readBeginnings();
        readRefused();
        span();
        endAndOpen();
        join();
        relationsOfAllSmallSpans();
        relationsOfOpenSpans();
        relation();
        wordOfClosedSpans();
        wordOfOpenSpans();
        wordOfAllCenturies();
        wordRefused();
        near();
        nearOfChangedNames();
        nearLongNames();
        feast();
        feastAgainstLibrary();
        regnal();
        count();
        Check.finish();
    }

    // Promise 1
    private static void newObject() {
        TimeWords x = new TimeWords();
        Check.due("count(0) of a new object", x.count(0), 0);
        Check.due("count(1) of a new object", x.count(1), 0);
        Check.due("count(2) of a new object", x.count(2), 0);
        Check.due("clear() of a new object", x.clear(), 0);
        Check.due("near() of a new object", x.near(), TimeWords.NONE);
        Check.due("width(3) of a new object", x.width(3), 25);
        Check.name(x, "ab");
        x.span(1, 2);
        TimeWords y = new TimeWords();
        Check.due("names of another object", y.count(1), 0);
        Check.due("spans of another object", y.count(2), 0);
        Check.due("width of another object", y.width(0), 25);
    }

    // Promise 2
    private static void unit() {
        for (int sign = -300; sign <= 300; sign++) {
            TimeWords x = new TimeWords();
            int tried = sign;
            if (sign >= 97 && sign <= 122 || sign >= 48 && sign <= 57 || sign == 32) {
                Check.due("unit(" + sign + ")", x.unit(sign), 1);
            } else {
                Check.noArgument("unit(" + sign + ")", x, () -> x.unit(tried));
            }
        }
        TimeWords x = new TimeWords();
        for (int i = 1; i <= 24; i++) {
            Check.due("unit " + i, x.unit('a'), i);
        }
        Check.noState("unit 25", x, () -> x.unit('a'));
        Check.noArgument("no sign on a full pad", x, () -> x.unit('A'));
        Check.noArgument("unit of the greatest int", x, () -> x.unit(MOST));
        Check.noArgument("unit of the least int", x, () -> x.unit(LEAST));
        Check.due("signs", x.count(0), 24);
    }

    // Promise 3
    private static void clear() {
        TimeWords x = new TimeWords();
        Check.type(x, "abcdefghijklmnopqrstuvwx");
        Check.due("clear() of a full pad", x.clear(), 24);
        Check.due("clear() again", x.clear(), 0);
        Check.due("signs after clear()", x.count(0), 0);
        Check.due("unit after clear()", x.unit('5'), 1);
        Check.due("unit after clear()", x.unit('c'), 2);
        Check.due("read of what came after clear()", Check.tell(x, x.read(0, 0)), "401..500");
    }

    // Promise 4
    private static void name() {
        TimeWords x = new TimeWords();
        Check.noArgument("name() of nothing", x, x::name);
        for (String text : new String[] {"abcdefghi", "ab1", "1", "a b", " ", " ab", "ab ", "5c"}) {
            Check.type(x, text);
            Check.noArgument("name() of '" + text + "'", x, x::name);
            Check.due("signs after it", x.count(0), text.length());
        }
        Check.due("abcdefgh", Check.name(x, "abcdefgh"), 0);
        Check.due("signs after name()", x.count(0), 0);
        Check.due("a", Check.name(x, "a"), 1);
        Check.due("z", Check.name(x, "z"), 2);
        Check.due("a again", Check.name(x, "a"), 1);
        Check.due("signs after name() again", x.count(0), 0);
        Check.due("abcdefg", Check.name(x, "abcdefg"), 3);
        Check.due("names", x.count(1), 4);
        for (int i = 4; i < 24; i++) {
            Check.due("name " + i, Check.name(x, "n" + (char) ('a' + i)), i);
        }
        Check.type(x, "more");
        Check.noState("name() of a 25th", x, x::name);
        Check.due("signs after a 25th", x.count(0), 4);
        Check.due("a name that there is, of 24", Check.name(x, "z"), 2);
        Check.due("the last name, of 24", Check.name(x, "nx"), 23);
        Check.type(x, "more1");
        Check.noArgument("no name, of 24", x, x::name);
    }

    // Promise 5
    private static void reign() {
        TimeWords x = new TimeWords();
        Check.noIndex("reign without names", x, () -> x.reign(0, 1, 2) ? 1 : 0);
        Check.name(x, "ab");
        Check.name(x, "b");
        Check.due("first reign", x.reign(0, 10, 19), true);
        Check.due("second reign", x.reign(0, -5, 5), false);
        Check.due("what it stands for", Check.meaning(x, "ab"), "-5..5");
        Check.due("reign of another name", x.reign(1, 7, 7), true);
        Check.due("what the first stands for then", Check.meaning(x, "ab"), "-5..5");
        Check.due("what the second stands for", Check.meaning(x, "b"), "7..7");
        Check.noIndex("reign(-1)", x, () -> x.reign(-1, 1, 2) ? 1 : 0);
        Check.noIndex("reign(2), and no years", x, () -> x.reign(2, 2, 1) ? 1 : 0);
        int[][] wrong = {{2, 1}, {-10000, 1}, {1, 10000}, {10000, 10000}, {-10000, -10000}, {LEAST, MOST}, {MOST, LEAST}};
        for (int[] years : wrong) {
            Check.noArgument("reign from " + years[0] + " to " + years[1], x, () -> x.reign(0, years[0], years[1]) ? 1 : 0);
        }
        Check.due("what it stands for after all these", Check.meaning(x, "ab"), "-5..5");
        Check.due("the longest reign", x.reign(0, -9999, 9999), false);
        Check.due("what it stands for", Check.meaning(x, "ab"), "-9999..9999");
    }

    // Promise 6
    private static void phase() {
        TimeWords x = new TimeWords();
        Check.noIndex("phase without names", x, () -> x.phase(0, 0, 1, 2, 0));
        Check.name(x, "ab");
        Check.name(x, "b");
        Check.noIndex("phase(-1)", x, () -> x.phase(-1, 0, 1, 2, 0));
        Check.noIndex("phase(2)", x, () -> x.phase(2, 0, 1, 2, 0));
        Check.noIndex("place -1, and no years", x, () -> x.phase(0, -1, 2, 1, 0));
        Check.noIndex("place 8, and no day", x, () -> x.phase(0, 8, 1, 2, -1));
        Check.noArgument("from above to", x, () -> x.phase(0, 0, 2, 1, 0));
        Check.noArgument("from no year", x, () -> x.phase(0, 0, -10000, 1, 0));
        Check.noArgument("to no year", x, () -> x.phase(0, 0, 1, 10000, 0));
        Check.noArgument("day -1", x, () -> x.phase(0, 0, 1, 2, -1));
        Check.noArgument("day 100001", x, () -> x.phase(0, 0, 1, 2, 100001));
        for (int i = 1; i <= 6; i++) {
            Check.due("phase " + i, x.phase(0, i + 1, 10 * i, 10 * i + 5, i % 2 == 0 ? 0 : 100000), i);
        }
        Check.noState("phase 7", x, () -> x.phase(0, 0, 1, 2, 0));
        Check.noArgument("no day for phase 7", x, () -> x.phase(0, 0, 1, 2, -1));
        Check.noIndex("no place for phase 7", x, () -> x.phase(0, 8, 1, 2, 0));
        Check.due("nothing at place 0", Check.tell(x, Check.read(x, "ab", 0, 100000)), "none");
        Check.due("the last phase", Check.tell(x, Check.read(x, "ab", 7, 100000)), "60..65");
        Check.due("another name's phase", x.phase(1, 0, -9999, 9999, 0), 1);
        Check.due("what it stands for", Check.meaning(x, "b"), "-9999..9999");
    }

    // Promise 7
    private static void width() {
        TimeWords x = new TimeWords();
        Check.due("width(0)", x.width(0), 25);
        Check.due("about, by 0", Check.meaning(x, "about 5c"), "401..500");
        Check.due("width(1000)", x.width(1000), 0);
        Check.due("about, by 1000", Check.meaning(x, "about 5c"), "-599..1500");
        Check.noArgument("width(-1)", x, () -> x.width(-1));
        Check.noArgument("width(1001)", x, () -> x.width(1001));
        Check.noArgument("width of the least int", x, () -> x.width(LEAST));
        Check.noArgument("width of the greatest int", x, () -> x.width(MOST));
        Check.due("width(7) after these", x.width(7), 1000);
        Check.due("about, by 7", Check.meaning(x, "about 5c"), "394..507");
    }

    // Promise 8
    private static void readCenturies() {
        for (int first = 1; first <= 99; first += 50) {
            TimeWords x = new TimeWords();
            for (int n = first; n < first + 50 && n <= 99; n++) {
                int span = Check.read(x, n + "c");
                Check.due("number of " + n + "c", span, n - first);
                Check.due(n + "c", Check.tell(x, span), (100 * (n - 1) + 1) + ".." + 100 * n);
            }
        }
        TimeWords x = new TimeWords();
        // Two digits with a 0 ahead are a number of two digits, too.
        Check.due("05c", Check.meaning(x, "05c"), "401..500");
        String[] none = {"", "0c", "00c", "c", "5", "55", "100c", "005c", "5 c", " 5c", "5c ", "5cc", "5d", "c5", "a5c", "5ac", "5c 5c"};
        for (String text : none) {
            Check.due("'" + text + "'", Check.meaning(x, text), "none");
        }
        Check.due("spans after all these", x.count(2), 1);
    }

    private static void readThirds() {
        TimeWords x = new TimeWords();
        Check.due("early 5c", Check.meaning(x, "early 5c"), "401..433");
        Check.due("mid 5c", Check.meaning(x, "mid 5c"), "434..466");
        Check.due("late 5c", Check.meaning(x, "late 5c"), "467..500");
        Check.name(x, "q");
        x.reign(0, -1, 1);
        Check.due("early of 3", Check.meaning(x, "early q"), "-1..-1");
        Check.due("mid of 3", Check.meaning(x, "mid q"), "0..0");
        Check.due("late of 3", Check.meaning(x, "late q"), "1..1");
        x.reign(0, 10, 14);
        Check.due("early of 5", Check.meaning(x, "early q"), "10..10");
        Check.due("mid of 5", Check.meaning(x, "mid q"), "11..11");
        Check.due("late of 5", Check.meaning(x, "late q"), "12..14");
        x.reign(0, 10, 11);
        Check.due("early of 2", Check.meaning(x, "early q"), "none");
        Check.due("mid of 2", Check.meaning(x, "mid q"), "none");
        Check.due("late of 2", Check.meaning(x, "late q"), "none");
        Check.due("late early 5c", Check.meaning(x, "late early 5c"), "423..433");
        Check.due("early before 5c", Check.meaning(x, "early before 5c"), "none");
        Check.due("late after 5c", Check.meaning(x, "late after 5c"), "none");
        String[] none = {"early", "early ", "early  5c", "early5c", " early 5c", "earl 5c", "early 5", "5c early", "middle 5c", "barly 5c", "did 5c", "earlx 5c"};
        for (String text : none) {
            Check.due("'" + text + "'", Check.meaning(x, text), "none");
        }
    }

    private static void readAbout() {
        TimeWords x = new TimeWords();
        Check.due("about 5c", Check.meaning(x, "about 5c"), "376..525");
        Check.due("about about 5c", Check.meaning(x, "about about 5c"), "351..550");
        Check.due("early about 5c", Check.meaning(x, "early about 5c"), "376..425");
        Check.due("about early 5c", Check.meaning(x, "about early 5c"), "376..458");
        Check.due("about before 5c", Check.meaning(x, "about before 5c"), "none");
        Check.due("about after 5c", Check.meaning(x, "about after 5c"), "none");
        x.width(1000);
        Check.due("about 99c, as far as years go", Check.meaning(x, "about 99c"), "8801..9999");
        Check.name(x, "q");
        x.reign(0, -9998, -9997);
        Check.due("about q, as far as years go", Check.meaning(x, "about q"), "-9999..-8997");
        x.reign(0, -9999, 9999);
        Check.due("about all years", Check.meaning(x, "about q"), "-9999..9999");
    }

    private static void readBeforeAndAfter() {
        TimeWords x = new TimeWords();
        Check.due("before 5c", Check.meaning(x, "before 5c"), "..400");
        Check.due("after 5c", Check.meaning(x, "after 5c"), "501..");
        Check.due("before about late 5c", Check.meaning(x, "before about late 5c"), "..441");
        Check.due("before before 5c", Check.meaning(x, "before before 5c"), "none");
        Check.due("before after 5c", Check.meaning(x, "before after 5c"), "none");
        Check.due("after before 5c", Check.meaning(x, "after before 5c"), "none");
        Check.due("after after 5c", Check.meaning(x, "after after 5c"), "none");
        Check.name(x, "q");
        x.reign(0, -9999, 9998);
        Check.due("before the first year", Check.meaning(x, "before q"), "none");
        Check.due("after the last year but one", Check.meaning(x, "after q"), "9999..");
        x.reign(0, -9998, 9999);
        Check.due("before the second year", Check.meaning(x, "before q"), "..-9999");
        Check.due("after the last year", Check.meaning(x, "after q"), "none");
    }

    private static void readNames() {
        TimeWords x = new TimeWords();
        Check.name(x, "early");
        Check.name(x, "c");
        Check.due("a name without years", Check.meaning(x, "early"), "none");
        x.reign(0, 10, 39);
        x.reign(1, 1, 1);
        Check.due("a name like a beginning", Check.meaning(x, "early"), "10..39");
        Check.due("such a name behind that beginning", Check.meaning(x, "early early"), "10..19");
        Check.due("the name alone, where more stood on the pad", Check.meaning(x, "early"), "10..39");
        Check.due("a name c", Check.meaning(x, "c"), "1..1");
        Check.due("not all of a name", Check.meaning(x, "earl"), "none");
        Check.due("more than a name", Check.meaning(x, "earlyx"), "none");
        x.phase(0, 3, 100, 109, 50);
        x.phase(0, 3, 200, 209, 70);
        x.phase(0, 3, 300, 309, 50);
        x.phase(0, 4, 400, 409, 0);
        int[][] atPlace3 = {{0, 10}, {49, 10}, {50, 300}, {69, 300}, {70, 200}, {100000, 200}};
        for (int[] due : atPlace3) {
            Check.due("at place 3 on day " + due[0], x.end(Check.read(x, "early", 3, due[0]), 0), due[1]);
        }
        Check.due("at place 4 on day 0", Check.tell(x, Check.read(x, "early", 4, 0)), "400..409");
        Check.due("at place 5", Check.tell(x, Check.read(x, "early", 5, 100000)), "10..39");
        Check.due("a third at place 3", Check.tell(x, Check.read(x, "late early", 3, 70)), "206..209");
        x.phase(1, 0, 7, 8, 5);
        Check.due("a phase is ahead of the reign", Check.tell(x, Check.read(x, "c", 0, 5)), "7..8");
    }

    private static void readBeginnings() {
        TimeWords x = new TimeWords();
        Check.name(x, "q");
        x.reign(0, 1, 2187);
        Check.due("five beginnings", Check.meaning(x, "mid mid mid mid mid q"), "1090..1098");
        Check.due("five of a century", Check.meaning(x, "mid late late mid mid 1c"), "54..54");
        Check.due("six and no more", Check.meaning(x, "mid mid mid mid mid mid "), "none");
        x.width(10);
        Check.due("the last one ahead is the first one used", Check.meaning(x, "late about mid 1c"), "58..76");
    }

    private static void readRefused() {
        TimeWords x = new TimeWords();
        Check.type(x, "5c");
        Check.noIndex("place -1, and no day", x, () -> x.read(-1, -1));
        Check.noIndex("place 8", x, () -> x.read(8, 0));
        Check.noArgument("day -1", x, () -> x.read(0, -1));
        Check.noArgument("day 100001", x, () -> x.read(7, 100001));
        Check.due("the pad after these", Check.tell(x, x.read(7, 100000)), "401..500");
        for (int i = 1; i < 60; i++) {
            x.span(i, i);
        }
        Check.type(x, "5c");
        Check.noState("read of span 60", x, () -> x.read(0, 0));
        Check.noArgument("no day, with 60 spans", x, () -> x.read(0, -1));
        Check.noIndex("no place, with 60 spans", x, () -> x.read(8, 0));
        Check.type(x, "no word");
        Check.noState("read of no word, with 60 spans", x, () -> x.read(0, 0));
        Check.due("signs after it", x.count(0), 7);
    }

    // Promise 9
    private static void span() {
        TimeWords x = new TimeWords();
        int[][] wrong = {{2, 1}, {-10000, 1}, {1, 10000}, {LEAST, 0}, {0, MOST}, {MOST, LEAST}};
        for (int[] years : wrong) {
            Check.noArgument("span(" + years[0] + ", " + years[1] + ")", x, () -> x.span(years[0], years[1]));
        }
        Check.due("span(-9999, 9999)", x.span(-9999, 9999), 0);
        Check.due("its years", Check.tell(x, 0), "-9999..9999");
        for (int i = 1; i < 60; i++) {
            Check.due("span " + i, x.span(i - 30, i), i);
        }
        Check.noState("span 60", x, () -> x.span(1, 2));
        Check.noArgument("no years for span 60", x, () -> x.span(2, 1));
        Check.due("spans", x.count(2), 60);
        for (int i = 1; i < 60; i++) {
            Check.due("years of span " + i, Check.tell(x, i), (i - 30) + ".." + i);
        }
    }

    // Promises 10 and 11
    private static void endAndOpen() {
        TimeWords x = new TimeWords();
        Check.noIndex("end without spans", x, () -> x.end(0, 0));
        Check.noIndex("open without spans", x, () -> x.open(0, 0) ? 1 : 0);
        x.span(-3, 4);
        Check.read(x, "before 5c");
        Check.read(x, "after 5c");
        x.join(1, 2);
        Check.due("end(0, 0)", x.end(0, 0), -3);
        Check.due("end(0, 1)", x.end(0, 1), 4);
        Check.due("end(1, 1)", x.end(1, 1), 400);
        Check.due("end(2, 0)", x.end(2, 0), 501);
        Check.noState("end(1, 0)", x, () -> x.end(1, 0));
        Check.noState("end(2, 1)", x, () -> x.end(2, 1));
        Check.noState("end(3, 0)", x, () -> x.end(3, 0));
        Check.noState("end(3, 1)", x, () -> x.end(3, 1));
        boolean[][] due = {{false, false}, {true, false}, {false, true}, {true, true}};
        for (int i = 0; i < due.length; i++) {
            Check.due("open(" + i + ", 0)", x.open(i, 0), due[i][0]);
            Check.due("open(" + i + ", 1)", x.open(i, 1), due[i][1]);
        }
        for (int which : new int[] {-1, 2, LEAST, MOST}) {
            Check.noIndex("end(1, " + which + ")", x, () -> x.end(1, which));
            Check.noIndex("open(1, " + which + ")", x, () -> x.open(1, which) ? 1 : 0);
        }
        for (int span : new int[] {-1, 4, LEAST, MOST}) {
            Check.noIndex("end(" + span + ", 0)", x, () -> x.end(span, 0));
            Check.noIndex("open(" + span + ", 0)", x, () -> x.open(span, 0) ? 1 : 0);
        }
    }

    // Promise 12
    private static void join() {
        TimeWords x = new TimeWords();
        Check.noIndex("join without spans", x, () -> x.join(0, 0));
        x.span(1, 5);
        x.span(20, 30);
        x.span(3, 25);
        Check.read(x, "before 1c");
        Check.read(x, "after 5c");
        Check.due("join(0, 1)", x.join(0, 1), 5);
        Check.due("its years", Check.tell(x, 5), "1..30");
        Check.due("join(1, 0)", Check.tell(x, x.join(1, 0)), "1..30");
        Check.due("join(2, 1)", Check.tell(x, x.join(2, 1)), "3..30");
        Check.due("join(0, 0)", Check.tell(x, x.join(0, 0)), "1..5");
        Check.due("join(3, 1)", Check.tell(x, x.join(3, 1)), "..30");
        Check.due("join(1, 4)", Check.tell(x, x.join(1, 4)), "20..");
        Check.due("join(4, 3)", Check.tell(x, x.join(4, 3)), "..");
        Check.due("join(11, 0)", Check.tell(x, x.join(11, 0)), "..");
        Check.due("what was joined stays", Check.tell(x, 0) + " " + Check.tell(x, 3), "1..5 ..0");
        for (int span : new int[] {-1, 13, LEAST, MOST}) {
            Check.noIndex("join(" + span + ", 0)", x, () -> x.join(span, 0));
            Check.noIndex("join(0, " + span + ")", x, () -> x.join(0, span));
        }
        while (x.count(2) < 60) {
            x.join(0, 1);
        }
        Check.noState("join for span 60", x, () -> x.join(0, 1));
        Check.noIndex("join of no span, with 60", x, () -> x.join(60, 1));
    }

    // Promises 13 and 14
    private static void relationsOfAllSmallSpans() {
        int[][] all = smallSpans(1, 6);
        TimeWords x = new TimeWords();
        for (int[] years : all) {
            x.span(years[0], years[1]);
        }
        for (int i = 0; i < all.length; i++) {
            for (int j = 0; j < all.length; j++) {
                Check.due("relation(" + i + ", " + j + ")", x.relation(i, j), relationAsTold(all[i], all[j]));
                Check.due("relations(" + i + ", " + j + ")", x.relations(i, j), relationsAsTold(all[i], all[j]));
            }
        }
    }

    private static int[][] smallSpans(int first, int last) {
        int years = last - first + 1;
        int[][] all = new int[years * (years + 1) / 2][];
        int made = 0;
        for (int from = first; from <= last; from++) {
            for (int to = from; to <= last; to++) {
                all[made++] = new int[] {from, to};
            }
        }
        return all;
    }

    private static int relationsAsTold(int[] a, int[] b) {
        int bits = 0;
        for (int[] p : smallSpans(a[0], a[1])) {
            for (int[] q : smallSpans(b[0], b[1])) {
                bits |= 1 << relationAsTold(p, q);
            }
        }
        return bits;
    }

    private static int relationAsTold(int[] a, int[] b) {
        int ahead = relationAheadAsTold(a, b);
        if (ahead >= 0) {
            return ahead;
        }
        if (relationAheadAsTold(b, a) >= 0) {
            return 6;
        }
        if (a[0] == b[0] && a[1] == b[1]) {
            return 3;
        }
        return b[0] <= a[0] && a[1] <= b[1] ? 4 : 5;
    }

    private static int relationAheadAsTold(int[] a, int[] b) {
        if (a[1] < b[0] - 1) {
            return 0;
        }
        if (a[1] == b[0] - 1) {
            return 1;
        }
        return a[0] < b[0] && b[0] <= a[1] && a[1] < b[1] ? 2 : -1;
    }

    private static void relationsOfOpenSpans() {
        TimeWords x = new TimeWords();
        Check.noIndex("relations without spans", x, () -> x.relations(0, 0));
        Check.read(x, "before 5c");
        Check.read(x, "5c");
        Check.read(x, "after 5c");
        x.span(-9999, -9999);
        x.span(9999, 9999);
        x.join(0, 2);
        Check.due("before 5c to 5c", x.relations(0, 1), 1 | 2);
        Check.due("5c to before 5c", x.relations(1, 0), 64);
        Check.due("5c to after 5c", x.relations(1, 2), 1 | 2);
        Check.due("before 5c to after 5c", x.relations(0, 2), 1);
        Check.due("after 5c to before 5c", x.relations(2, 0), 64);
        Check.due("before 5c to itself", x.relations(0, 0), 127);
        Check.due("the first year to before 5c", x.relations(3, 0), 1 | 2 | 8 | 16);
        Check.due("before 5c to the first year", x.relations(0, 3), 8 | 32 | 64);
        Check.due("the last year to after 5c", x.relations(4, 2), 8 | 16 | 64);
        Check.due("after 5c to the last year", x.relations(2, 4), 1 | 2 | 8 | 32);
        Check.due("open at both ends to 5c", x.relations(5, 1), 127);
        Check.due("the first year to open at both ends", x.relations(3, 5), 1 | 2 | 8 | 16);
        for (int span : new int[] {-1, 6, LEAST, MOST}) {
            Check.noIndex("relations(" + span + ", 0)", x, () -> x.relations(span, 0));
            Check.noIndex("relations(0, " + span + ")", x, () -> x.relations(0, span));
            Check.noIndex("relation(" + span + ", 0)", x, () -> x.relation(span, 0));
            Check.noIndex("relation(0, " + span + ")", x, () -> x.relation(0, span));
        }
    }

    private static void relation() {
        TimeWords x = new TimeWords();
        x.span(-9999, 9999);
        x.span(401, 500);
        Check.read(x, "before 5c");
        Check.read(x, "after 5c");
        Check.due("relation(0, 1)", x.relation(0, 1), 5);
        Check.due("relation(1, 0)", x.relation(1, 0), 4);
        Check.due("relation(1, 1)", x.relation(1, 1), 3);
        Check.noState("relation(2, 1)", x, () -> x.relation(2, 1));
        Check.noState("relation(1, 2)", x, () -> x.relation(1, 2));
        Check.noState("relation(3, 1)", x, () -> x.relation(3, 1));
        Check.noState("relation(1, 3)", x, () -> x.relation(1, 3));
        Check.noState("relation(2, 2)", x, () -> x.relation(2, 2));
        Check.noIndex("relation of an open one to none", x, () -> x.relation(2, 4));
    }

    // Promise 15
    private static void wordOfClosedSpans() {
        TimeWords x = new TimeWords();
        x.span(401, 500);
        x.span(434, 466);
        x.span(401, 499);
        x.span(1, 100);
        x.span(1, 33);
        x.span(9900, 9999);
        x.span(0, 99);
        x.span(-99, 0);
        x.span(412, 422);
        x.span(9901, 9933);
        String[] due = {"5c", "mid 5c", "none", "1c", "early 1c", "none", "none", "none", "none", "none"};
        for (int i = 0; i < due.length; i++) {
            Check.due("word of span " + i, Check.say(x, i), due[i]);
        }
        reignOf(x, "years", 412, 422);
        Check.due("the first name", Check.say(x, 8), "years");
        reignOf(x, "midway", 434, 466);
        Check.due("'mid 5c' is ahead of 'midway'", Check.say(x, 1), "mid 5c");
        reignOf(x, "lowest", 434, 466);
        Check.due("'lowest' is ahead of 'mid 5c'", Check.say(x, 1), "lowest");
        reignOf(x, "zz", 401, 500);
        Check.due("'5c' is ahead of 'zz'", Check.say(x, 0), "5c");
        int z = reignOf(x, "z", 401, 500);
        Check.due("'z' is shorter than '5c'", Check.say(x, 0), "z");
        reignOf(x, "y", 401, 500);
        Check.due("'y' is ahead of 'z'", Check.say(x, 0), "y");
        x.reign(z, 401, 499);
        Check.due("a name alone", Check.say(x, 2), "z");
        x.phase(z, 1, 0, 99, 0);
        Check.due("a phase at another place", Check.say(x, 2), "z");
        x.phase(z, 0, 0, 99, 100000);
        Check.due("a phase at place 0 takes the reign's place", Check.say(x, 2), "none");
        Check.due("the phase at place 0", Check.say(x, 6), "z");
        x.phase(z, 0, 412, 422, 100000);
        Check.due("a later told phase at place 0", Check.say(x, 8), "z");
        Check.due("the phase that was told ahead of it", Check.say(x, 6), "none");
        x.width(0);
        Check.due("no word with about", Check.say(x, 5), "none");
    }

    private static int reignOf(TimeWords x, String name, int from, int to) {
        int number = Check.name(x, name);
        x.reign(number, from, to);
        return number;
    }

    private static void wordOfOpenSpans() {
        TimeWords x = new TimeWords();
        Check.read(x, "before early 5c");
        Check.read(x, "before mid 12c");
        Check.read(x, "after 5c");
        Check.read(x, "after late 99c");
        Check.read(x, "after mid 9c");
        int both = x.join(0, 2);
        String[] due = {"before 5c", "before mid 12c", "after 5c", "after 99c", "after mid 9c", "none"};
        for (int i = 0; i < due.length; i++) {
            Check.due("word of span " + i, Check.say(x, i), due[i]);
        }
        reignOf(x, "zz", 401, 401);
        Check.due("'before 5c' is ahead of 'before zz'", Check.say(x, 0), "before 5c");
        reignOf(x, "z", 401, 9999);
        Check.due("'before z' is shorter", Check.say(x, 0), "before z");
        reignOf(x, "y", -9999, 500);
        Check.due("'after y' is shorter", Check.say(x, 2), "after y");
        reignOf(x, "all", -9999, 9999);
        Check.due("open at both ends", Check.say(x, both), "none");
        x.span(9999, 9999);
        int toLast = x.join(0, x.count(2) - 1);
        Check.due("..9999", Check.tell(x, toLast), "..9999");
        Check.due("there is no year behind it", Check.say(x, toLast), "none");
        x.span(-9999, -9999);
        int fromFirst = x.join(2, x.count(2) - 1);
        Check.due("-9999..", Check.tell(x, fromFirst), "-9999..");
        Check.due("there is no year ahead of it", Check.say(x, fromFirst), "none");
        x.span(9801, 9900);
        int toLastCentury = x.join(0, x.count(2) - 1);
        Check.due("..9900", Check.tell(x, toLastCentury), "..9900");
        Check.due("there is no century behind it", Check.say(x, toLastCentury), "none");
        Check.read(x, "before about 5c");
        Check.due("no third or century begins there", Check.say(x, x.count(2) - 1), "none");
    }

    private static void wordOfAllCenturies() {
        String[] ahead = {"", "early ", "mid ", "late "};
        for (int n = 1; n <= 99; n++) {
            TimeWords x = new TimeWords();
            for (String third : ahead) {
                String word = third + n + "c";
                Check.due("word of " + word, Check.say(x, Check.read(x, word)), word);
            }
            String before = n + "c";
            Check.due("word of before " + before, Check.say(x, Check.read(x, "before " + before)), "before " + before);
            Check.due("word of after " + before, Check.say(x, Check.read(x, "after " + before)), "after " + before);
        }
    }

    private static void wordRefused() {
        TimeWords x = new TimeWords();
        Check.noIndex("word without spans", x, () -> x.word(0, TimeWords.NONE));
        x.span(401, 500);
        x.span(1, 1);
        Check.due("word(0, NONE)", x.word(0, TimeWords.NONE), 2);
        Check.due("word(1, NONE)", x.word(1, TimeWords.NONE), TimeWords.NONE);
        for (int i : new int[] {-2, 2, 24, LEAST, MOST}) {
            Check.noIndex("word(0, " + i + ")", x, () -> x.word(0, i));
        }
        for (int i : new int[] {-2, 0, 1, LEAST, MOST}) {
            Check.noIndex("word(1, " + i + ")", x, () -> x.word(1, i));
        }
        for (int span : new int[] {-1, 2, LEAST, MOST}) {
            Check.noIndex("word(" + span + ", NONE)", x, () -> x.word(span, TimeWords.NONE));
        }
    }

    // Promise 16
    private static void near() {
        TimeWords x = new TimeWords();
        Check.type(x, "ab");
        Check.due("near() without names", x.near(), TimeWords.NONE);
        x.clear();
        for (String name : new String[] {"henry", "harold", "john", "henri", "jo"}) {
            Check.name(x, name);
        }
        String[] pads = {"henry", "henri", "hary", "harld", "jhn", "", "henrx", "joh", "12 45", "ojhn", "on", "henryhenryhenryhenryhenr", "xhenri"};
        // Equally near: "hary" to henry and harold, "12 45" to all but harold, "on" to john and jo.
        int[] due = {0, 3, 0, 1, 2, 4, 0, 2, 0, 2, 2, 0, 3};
        for (int i = 0; i < pads.length; i++) {
            Check.type(x, pads[i]);
            Check.due("near() of '" + pads[i] + "'", x.near(), due[i]);
            Check.due("signs after it", x.count(0), pads[i].length());
        }
        Check.type(x, "5c");
        x.near();
        Check.due("the pad after near()", Check.tell(x, x.read(0, 0)), "401..500");
    }

    /** Each pad is some name with a sign changed, put in or left out, or two such changes. */
    private static void nearOfChangedNames() {
        String[] names = {"henry", "harold", "john", "henri", "jo"};
        for (String name : names) {
            for (String once : changedOnce(name)) {
                nearAsTold(once, names);
                nearAsTold(once + "o", names);
                nearAsTold("j" + once, names);
            }
        }
    }

    private static List<String> changedOnce(String text) {
        List<String> all = new ArrayList<>();
        for (int i = 0; i <= text.length(); i++) {
            for (String sign : new String[] {"", "h", "n", "o", "7", " "}) {
                all.add(text.substring(0, i) + sign + text.substring(i));
                all.add(text.substring(0, i) + sign + text.substring(Math.min(i + 1, text.length())));
            }
        }
        return all;
    }

    private static void nearAsTold(String pad, String[] names) {
        TimeWords x = new TimeWords();
        for (String name : names) {
            Check.name(x, name);
        }
        int nearest = 0;
        for (int i = 1; i < names.length; i++) {
            if (changesAsTold(pad, names[i]) < changesAsTold(pad, names[nearest])) {
                nearest = i;
            }
        }
        Check.type(x, pad);
        Check.due("near() of '" + pad + "'", x.near(), nearest);
    }

    private static int changesAsTold(String a, String b) {
        if (a.isEmpty() || b.isEmpty()) {
            return a.length() + b.length();
        }
        if (a.charAt(0) == b.charAt(0)) {
            return changesAsTold(a.substring(1), b.substring(1));
        }
        int changed = changesAsTold(a.substring(1), b.substring(1));
        int leftOut = changesAsTold(a.substring(1), b);
        int putIn = changesAsTold(a, b.substring(1));
        return 1 + Math.min(changed, Math.min(leftOut, putIn));
    }

    private static void nearLongNames() {
        TimeWords x = new TimeWords();
        Check.name(x, "abcdefgh");
        Check.name(x, "abcdefgx");
        Check.name(x, "xbcdefgh");
        String[] pads = {"abcdefgh", "abcdefgx", "xbcdefgh", "bcdefgx", "xxbcdefg", "abcdefg", "abcdefghabcdefghabcdefgx"};
        int[] due = {0, 1, 2, 1, 2, 0, 0};
        for (int i = 0; i < pads.length; i++) {
            Check.type(x, pads[i]);
            Check.due("near() of '" + pads[i] + "'", x.near(), due[i]);
        }
    }

    // Promise 17
    private static void feast() {
        TimeWords x = new TimeWords();
        Check.due("the first Monday of year 1", x.feast(1, 1, 0, 1), 1);
        Check.due("the fifth Thursday of February 2024", x.feast(2024, 2, 3, 5), 29);
        Check.due("the fifth Thursday of February 2023", x.feast(2023, 2, 3, 5), 0);
        Check.due("the last Thursday of February 2023", x.feast(2023, 2, 3, TimeWords.NONE), 23);
        Check.due("the fourth Thursday of November 2026", x.feast(2026, 11, 3, 4), 26);
        Check.due("February of 1900, by 100", x.feast(1900, 2, 3, 5), 0);
        Check.due("February of 2000, by 400", x.feast(2000, 2, 1, 5), 29);
        Check.due("February of year 0", x.feast(0, 2, 1, 5), 29);
        int[][] wrong = {{10000, 1, 0, 1}, {-10000, 1, 0, 1}, {1, 0, 0, 1}, {1, 13, 0, 1}, {1, 1, -1, 1}, {1, 1, 7, 1},
            {1, 1, 0, 0}, {1, 1, 0, 6}, {1, 1, 0, -2}, {LEAST, 1, 0, 1}, {MOST, 1, 0, 1}, {1, LEAST, 0, 1},
            {1, MOST, 0, 1}, {1, 1, LEAST, 1}, {1, 1, MOST, 1}, {1, 1, 0, LEAST}, {1, 1, 0, MOST}};
        for (int[] a : wrong) {
            Check.noArgument("feast(" + a[0] + ", " + a[1] + ", " + a[2] + ", " + a[3] + ")", x, () -> x.feast(a[0], a[1], a[2], a[3]));
        }
    }

    private static void feastAgainstLibrary() {
        for (int year = -9999; year <= 9999; year += year > -410 && year < 2410 ? 1 : 37) {
            feastsOfYear(year);
        }
        feastsOfYear(9999);
    }

    /** All feasts of a year are 504 calls, of the 512 that an object is used for. */
    private static void feastsOfYear(int year) {
        TimeWords x = new TimeWords();
        for (int month = 1; month <= 12; month++) {
            LocalDate first = LocalDate.of(year, month, 1);
            for (int weekday = 0; weekday < 7; weekday++) {
                DayOfWeek day = DayOfWeek.of(weekday + 1);
                String told = "feast(" + year + ", " + month + ", " + weekday + ", ";
                for (int k = 1; k <= 5; k++) {
                    LocalDate date = first.with(TemporalAdjusters.dayOfWeekInMonth(k, day));
                    Check.due(told + k + ")", x.feast(year, month, weekday, k), date.getMonthValue() == month ? date.getDayOfMonth() : 0);
                }
                int last = first.with(TemporalAdjusters.lastInMonth(day)).getDayOfMonth();
                Check.due(told + "NONE)", x.feast(year, month, weekday, TimeWords.NONE), last);
            }
        }
    }

    // Promise 18
    private static void regnal() {
        TimeWords x = new TimeWords();
        Check.noIndex("regnal without names", x, () -> x.regnal(0, 1));
        Check.name(x, "ab");
        Check.name(x, "b");
        x.reign(0, -2, 7);
        Check.due("regnal(0, 1)", x.regnal(0, 1), -2);
        Check.due("regnal(0, 3)", x.regnal(0, 3), 0);
        Check.due("regnal(0, 10)", x.regnal(0, 10), 7);
        Check.noState("regnal(0, 11)", x, () -> x.regnal(0, 11));
        Check.noState("regnal(0, the greatest int)", x, () -> x.regnal(0, MOST));
        Check.noArgument("regnal(0, 0)", x, () -> x.regnal(0, 0));
        Check.noArgument("regnal(0, the least int)", x, () -> x.regnal(0, LEAST));
        Check.noState("regnal(1, 1)", x, () -> x.regnal(1, 1));
        Check.noArgument("regnal(1, 0)", x, () -> x.regnal(1, 0));
        Check.noIndex("regnal(2, 0)", x, () -> x.regnal(2, 0));
        Check.noIndex("regnal(-1, 1)", x, () -> x.regnal(-1, 1));
        x.phase(1, 0, 5, 9, 0);
        Check.noState("a phase is no reign", x, () -> x.regnal(1, 1));
        x.phase(0, 0, 500, 900, 0);
        Check.due("regnal(0, 2) with a phase", x.regnal(0, 2), -1);
        x.reign(0, -9999, 9999);
        Check.due("the last year of the longest reign", x.regnal(0, 19999), 9999);
        Check.noState("the year behind it", x, () -> x.regnal(0, 20000));
    }

    // Promise 19
    private static void count() {
        TimeWords x = new TimeWords();
        Check.name(x, "ab");
        Check.name(x, "b");
        x.span(1, 2);
        Check.read(x, "5c");
        x.join(0, 1);
        Check.type(x, "four");
        Check.due("count(0)", x.count(0), 4);
        Check.due("count(1)", x.count(1), 2);
        Check.due("count(2)", x.count(2), 3);
        for (int what : new int[] {-1, 3, LEAST, MOST}) {
            Check.noIndex("count(" + what + ")", x, () -> x.count(what));
        }
    }
}
