import java.time.LocalDate;

/** Promises whose cases are few enough to go through them all: feasts, relations, words of centuries. */
public final class AllCasesTest {
    private static final int NONE = TimeWords.NONE;
    private static final int WINDOW = 6;

    public static void main(String[] args) {
        for (int year = -9999; year <= 9999; year++) {
            feastsOf(year);
        }
        for (int first : new int[] {-9999, -3, 9999 - WINDOW + 1}) {
            relationsFrom(first);
        }
        for (int century = 1; century <= 99; century++) {
            wordsOf(century + "c");
        }
        Check.finish();
    }

    private static void feastsOf(int year) {
        TimeWords x = new TimeWords();
        for (int month = 1; month <= 12; month++) {
            LocalDate first = LocalDate.of(year, month, 1);
            for (int weekday = 0; weekday < 7; weekday++) {
                int day = 1 + (weekday - first.getDayOfWeek().ordinal() + 7) % 7;
                int last = day;
                for (int k = 1; k <= 5; k++, day += 7) {
                    last = day <= first.lengthOfMonth() ? day : last;
                    Check.due("feast " + k + " of weekday " + weekday + " in " + first, x.feast(year, month, weekday, k), last == day ? day : 0);
                }
                Check.due("the last of weekday " + weekday + " in " + first, x.feast(year, month, weekday, NONE), last);
            }
        }
    }

    private static void relationsFrom(int first) {
        int last = first + WINDOW - 1;
        for (int a = first; a <= last; a++) {
            for (int b = a; b <= last; b++) {
                for (int c = first; c <= last; c++) {
                    for (int d = c; d <= last; d++) {
                        TimeWords x = new TimeWords();
                        x.span(a, b);
                        x.span(c, d);
                        String told = a + ".." + b + " to " + c + ".." + d;
                        Check.due("relation of " + told, x.relation(0, 1), stand(a, b, c, d));
                        Check.due("relations of " + told, x.relations(0, 1), mayStand(a, b, c, d));
                    }
                }
            }
        }
    }

    /** The relation by the years that the spans share and those that only one of them has. */
    private static int stand(int a, int b, int c, int d) {
        boolean share = Math.max(a, c) <= Math.min(b, d);
        boolean firstAlone = a < c || b > d;
        boolean secondAlone = c < a || d > b;
        if (share && !(firstAlone && secondAlone)) {
            return firstAlone ? 5 : secondAlone ? 4 : 3;
        }
        if (a > c) {
            return 6;
        }
        return share ? 2 : c - b == 1 ? 1 : 0;
    }

    private static int mayStand(int a, int b, int c, int d) {
        int bits = 0;
        for (int p = a; p <= b; p++) {
            for (int q = p; q <= b; q++) {
                for (int r = c; r <= d; r++) {
                    for (int s = r; s <= d; s++) {
                        bits |= 1 << stand(p, q, r, s);
                    }
                }
            }
        }
        return bits;
    }

    /** Each word of a century is said as it was read, but where the whole century says the same. */
    private static void wordsOf(String century) {
        TimeWords x = new TimeWords();
        for (String third : new String[] {"", "early ", "mid ", "late "}) {
            String plain = third + century;
            Check.due(plain, Check.say(x, Check.read(x, plain)), plain);
            String before = "before " + (third.equals("early ") ? century : plain);
            Check.due("before " + plain, Check.say(x, Check.read(x, "before " + plain)), before);
            String after = "after " + (third.equals("late ") ? century : plain);
            Check.due("after " + plain, Check.say(x, Check.read(x, "after " + plain)), after);
        }
    }
}
