import java.time.DayOfWeek;
import java.time.YearMonth;
import java.util.ArrayList;
import java.util.Collections;
import java.util.Comparator;
import java.util.List;
import java.util.TreeSet;
import java.util.regex.Matcher;
import java.util.regex.Pattern;

/** A second telling of the document, in ways as unlike the class as can be, to compare it with. */
final class Model {
    private static final Pattern CENTURY = Pattern.compile("([0-9]{1,2})c");
    private static final Pattern BEGUN = Pattern.compile("(early|mid|late|about|before|after) (.*)");

    /** from and to are null at an open end. */
    private record Span(Integer from, Integer to) {
        boolean isOpen() {
            return from == null || to == null;
        }
    }

    private record Phase(int place, int day, Span years) {
    }

    private static final class Name {
        final String letters;
        final List<Phase> phases = new ArrayList<>();
        Span reign;

        Name(String letters) {
            this.letters = letters;
        }
    }

    private String pad = "";
    private int width = 25;
    private final List<Name> names = new ArrayList<>();
    private final List<Span> spans = new ArrayList<>();

    public int unit(int sign) {
        argument(sign >= 0 && sign < 128 && String.valueOf((char) sign).matches("[a-z0-9 ]"));
        state(pad.length() < 24);
        pad += (char) sign;
        return pad.length();
    }

    public int clear() {
        int had = pad.length();
        pad = "";
        return had;
    }

    public int name() {
        argument(pad.matches("[a-z]{1,8}"));
        for (int i = 0; i < names.size(); i++) {
            if (names.get(i).letters.equals(pad)) {
                pad = "";
                return i;
            }
        }
        state(names.size() < 24);
        names.add(new Name(pad));
        pad = "";
        return names.size() - 1;
    }

    public boolean reign(int name, int from, int to) {
        index(name, names.size());
        years(from, to);
        boolean hadNone = names.get(name).reign == null;
        names.get(name).reign = new Span(from, to);
        return hadNone;
    }

    public int phase(int name, int place, int from, int to, int day) {
        index(name, names.size());
        index(place, 8);
        years(from, to);
        argument(0 <= day && day <= 100000);
        List<Phase> phases = names.get(name).phases;
        state(phases.size() < 6);
        phases.add(new Phase(place, day, new Span(from, to)));
        return phases.size();
    }

    public int width(int years) {
        argument(0 <= years && years <= 1000);
        int was = width;
        width = years;
        return was;
    }

    public int read(int place, int day) {
        index(place, 8);
        argument(0 <= day && day <= 100000);
        state(spans.size() < 60);
        Span span = meaning(pad, place, day, 5);
        pad = "";
        return span == null ? -1 : keep(span);
    }

    public int span(int from, int to) {
        years(from, to);
        state(spans.size() < 60);
        return keep(new Span(from, to));
    }

    public int end(int span, int which) {
        index(span, spans.size());
        index(which, 2);
        Integer year = which == 0 ? spans.get(span).from : spans.get(span).to;
        state(year != null);
        return year;
    }

    public boolean open(int span, int which) {
        index(span, spans.size());
        index(which, 2);
        return (which == 0 ? spans.get(span).from : spans.get(span).to) == null;
    }

    public int join(int a, int b) {
        index(a, spans.size());
        index(b, spans.size());
        state(spans.size() < 60);
        Span p = spans.get(a);
        Span q = spans.get(b);
        Integer from = p.from == null || q.from == null ? null : Integer.valueOf(Math.min(p.from, q.from));
        Integer to = p.to == null || q.to == null ? null : Integer.valueOf(Math.max(p.to, q.to));
        return keep(new Span(from, to));
    }

    public int relations(int a, int b) {
        index(a, spans.size());
        index(b, spans.size());
        TreeSet<Integer> marks = new TreeSet<>();
        for (Span span : List.of(spans.get(a), spans.get(b))) {
            for (int by = -3; by <= 3; by++) {
                marks.add((span.from == null ? -9999 : span.from) + by);
                marks.add((span.to == null ? 9999 : span.to) + by);
            }
        }
        int bits = 0;
        for (Span p : within(spans.get(a), marks)) {
            for (Span q : within(spans.get(b), marks)) {
                bits |= 1 << stand(p, q);
            }
        }
        return bits;
    }

    /** Spans within one that begin and end near where either span does; no others can matter. */
    private static List<Span> within(Span told, TreeSet<Integer> marks) {
        List<Span> all = new ArrayList<>();
        int first = told.from == null ? -9999 : told.from;
        int last = told.to == null ? 9999 : told.to;
        for (int from : marks.subSet(first, true, last, true)) {
            for (int to : marks.subSet(from, true, last, true)) {
                all.add(new Span(from, to));
            }
        }
        return all;
    }

    public int relation(int a, int b) {
        index(a, spans.size());
        index(b, spans.size());
        state(!spans.get(a).isOpen() && !spans.get(b).isOpen());
        return stand(spans.get(a), spans.get(b));
    }

    private static int stand(Span a, Span b) {
        if (a.equals(b)) {
            return 3;
        }
        if (a.to < b.from) {
            return b.from - a.to >= 2 ? 0 : 1;
        }
        if (a.from < b.from && a.to < b.to) {
            return 2;
        }
        if (a.from >= b.from && a.to <= b.to) {
            return 4;
        }
        return a.from <= b.from && a.to >= b.to ? 5 : 6;
    }

    public int word(int span, int i) {
        index(span, spans.size());
        List<String> words = new ArrayList<>();
        for (String word : allWords()) {
            if (spans.get(span).equals(meaning(word, 0, 100000, 5))) {
                words.add(word);
            }
        }
        words.sort(Comparator.comparing(String::length).thenComparing(Comparator.naturalOrder()));
        if (i == -1) {
            return words.isEmpty() ? -1 : words.get(0).length();
        }
        index(i, words.isEmpty() ? 0 : words.get(0).length());
        return words.get(0).charAt(i);
    }

    private List<String> allWords() {
        List<String> plain = new ArrayList<>();
        for (int n = 1; n <= 99; n++) {
            Collections.addAll(plain, n + "c", "early " + n + "c", "mid " + n + "c", "late " + n + "c");
        }
        for (Name name : names) {
            plain.add(name.letters);
        }
        List<String> all = new ArrayList<>(plain);
        for (String word : plain) {
            Collections.addAll(all, "before " + word, "after " + word);
        }
        return all;
    }

    public int near() {
        int best = -1;
        for (int i = names.size() - 1; i >= 0; i--) {
            if (best < 0 || distance(pad, names.get(i).letters) <= distance(pad, names.get(best).letters)) {
                best = i;
            }
        }
        return best;
    }

    private static int distance(String a, String b) {
        int[][] least = new int[a.length() + 1][b.length() + 1];
        for (int i = 0; i <= a.length(); i++) {
            for (int j = 0; j <= b.length(); j++) {
                if (i == 0 || j == 0) {
                    least[i][j] = i + j;
                } else if (a.charAt(i - 1) == b.charAt(j - 1)) {
                    least[i][j] = least[i - 1][j - 1];
                } else {
                    least[i][j] = 1 + Math.min(least[i - 1][j - 1], Math.min(least[i - 1][j], least[i][j - 1]));
                }
            }
        }
        return least[a.length()][b.length()];
    }

    public int feast(int year, int month, int weekday, int k) {
        argument(-9999 <= year && year <= 9999 && 1 <= month && month <= 12);
        argument(0 <= weekday && weekday <= 6 && (k == -1 || 1 <= k && k <= 5));
        YearMonth in = YearMonth.of(year, month);
        List<Integer> days = new ArrayList<>();
        for (int day = 1; day <= in.lengthOfMonth(); day++) {
            if (in.atDay(day).getDayOfWeek() == DayOfWeek.values()[weekday]) {
                days.add(day);
            }
        }
        if (k == -1) {
            return days.get(days.size() - 1);
        }
        return k <= days.size() ? days.get(k - 1) : 0;
    }

    public int regnal(int name, int n) {
        index(name, names.size());
        argument(n >= 1);
        Span reign = names.get(name).reign;
        state(reign != null);
        long year = (long) reign.from + n - 1;
        state(year <= reign.to);
        return (int) year;
    }

    public int count(int what) {
        index(what, 3);
        return what == 0 ? pad.length() : what == 1 ? names.size() : spans.size();
    }

    private int keep(Span span) {
        spans.add(span);
        return spans.size() - 1;
    }

    private Span meaning(String word, int place, int day, int beginnings) {
        Matcher century = CENTURY.matcher(word);
        if (century.matches()) {
            int n = Integer.parseInt(century.group(1));
            return n == 0 ? null : new Span(100 * n - 99, 100 * n);
        }
        Matcher begun = BEGUN.matcher(word);
        if (!begun.matches()) {
            return nameMeaning(word, place, day);
        }
        Span rest = beginnings == 0 ? null : meaning(begun.group(2), place, day, beginnings - 1);
        return rest == null || rest.isOpen() ? null : begin(begun.group(1), rest);
    }

    private Span begin(String beginning, Span rest) {
        int third = (rest.to - rest.from + 1) / 3;
        switch (beginning) {
            case "early":
                return third == 0 ? null : new Span(rest.from, rest.from + third - 1);
            case "mid":
                return third == 0 ? null : new Span(rest.from + third, rest.from + 2 * third - 1);
            case "late":
                return third == 0 ? null : new Span(rest.from + 2 * third, rest.to);
            case "about":
                return new Span(Math.max(-9999, rest.from - width), Math.min(9999, rest.to + width));
            case "before":
                return rest.from == -9999 ? null : new Span(null, rest.from - 1);
            default:
                return rest.to == 9999 ? null : new Span(rest.to + 1, null);
        }
    }

    private Span nameMeaning(String word, int place, int day) {
        for (Name name : names) {
            if (name.letters.equals(word)) {
                List<Phase> used = new ArrayList<>(name.phases);
                used.removeIf(phase -> phase.place != place || phase.day > day);
                // Sorting keeps equal ones in the order in which they were told.
                used.sort(Comparator.comparing(Phase::day));
                return used.isEmpty() ? name.reign : used.get(used.size() - 1).years;
            }
        }
        return null;
    }

    private static void years(int from, int to) {
        argument(-9999 <= from && from <= to && to <= 9999);
    }

    private static void index(int i, int size) {
        if (i < 0 || i >= size) {
            throw new IndexOutOfBoundsException();
        }
    }

    private static void argument(boolean holds) {
        if (!holds) {
            throw new IllegalArgumentException();
        }
    }

    private static void state(boolean holds) {
        if (!holds) {
            throw new IllegalStateException();
        }
    }
}
