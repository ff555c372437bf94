import java.util.ArrayList;

/**
 * Words for times and the spans of years that they stand for. The promises that the comments name
 * by number are those of the project's document, DOC.md.
 */
public final class TimeWords {
    public static final int NONE = -1;

    private static final int FIRST_YEAR = -9999;
    private static final int LAST_YEAR = 9999;
    private static final int LAST_DAY = 100000;
    private static final int PLACES = 8;
    private static final int MOST_SIGNS = 24;
    private static final int MOST_NAMES = 24;
    private static final int MOST_LETTERS = 8;
    private static final int MOST_PHASES = 6;
    private static final int MOST_SPANS = 60;
    private static final int MOST_YEARS_ABOUT = 1000;
    private static final int CENTURY_YEARS = 100;
    private static final int LAST_CENTURY = 99;

    // A third's kind is also its place in what it is a third of; WHOLE stands for no beginning.
    private static final int WHOLE = -1;
    private static final int EARLY = 0;
    private static final int MID = 1;
    private static final int LATE = 2;
    private static final int ABOUT = 3;
    private static final int BEFORE = 4;
    private static final int AFTER = 5;
    private static final int KINDS = 6;
    private static final int MOST_BEGINNINGS = 5;

    private static final int IS_BEFORE = 0;
    private static final int MEETS = 1;
    private static final int OVERLAPS = 2;
    private static final int IS_SAME = 3;
    private static final int IS_WITHIN = 4;
    private static final int IS_AROUND = 5;
    private static final int OTHER_WAY_ROUND = 6;

    private static final int WEEK = 7;
    private static final int MOST_IN_MONTH = 5;
    private static final int FEBRUARY = 2;
    private static final int[] MONTH_DAYS = {31, 28, 31, 30, 31, 30, 31, 31, 30, 31, 30, 31};

    private final Row pad;
    private final ArrayList<Name> names;
    private final ArrayList<Years> spans;
    private int yearsAbout;

    // Kept from call to call only so that no call makes them anew.
    private final Years found;
    private final Row trial;
    private final Row shortest;
    private final int[] changes;

    public TimeWords() {
        pad = new Row(MOST_SIGNS);
        names = new ArrayList<>();
        spans = new ArrayList<>();
        yearsAbout = 25;
        found = new Years(0, 0);
        trial = new Row(MOST_SIGNS);
        shortest = new Row(MOST_SIGNS);
        changes = new int[MOST_LETTERS + 1];
    }

    public int unit(int sign) throws IllegalArgumentException, IllegalStateException {
        if (!isSign(sign)) {
            throw new IllegalArgumentException("no sign");
        }
        if (pad.length >= MOST_SIGNS) {
            throw new IllegalStateException("the pad is full");
        }
        pad.add(sign);
        return pad.length;
    }

    public int clear() {
        int had = pad.length;
        pad.empty();
        return had;
    }

    public int name() throws IllegalArgumentException, IllegalStateException {
        if (!padMayBeName()) {
            throw new IllegalArgumentException("the pad is no row of 1 to 8 letters");
        }
        int number = nameFrom(0);
        if (number == NONE) {
            if (names.size() >= MOST_NAMES) {
                throw new IllegalStateException("no room for another name");
            }
            number = names.size();
            names.add(new Name(pad));
        }
        pad.empty();
        return number;
    }

    public boolean reign(int name, int from, int to) throws IndexOutOfBoundsException, IllegalArgumentException {
        Name named = nameNumbered(name);
        checkYears(from, to);
        boolean hadNone = named.reigned == null;
        named.reigned = new Years(from, to);
        return hadNone;
    }

    public int phase(int name, int place, int from, int to, int day)
            throws IndexOutOfBoundsException, IllegalArgumentException, IllegalStateException {
        Name named = nameNumbered(name);
        checkPlace(place);
        checkYears(from, to);
        checkDay(day);
        if (named.phases.size() >= MOST_PHASES) {
            throw new IllegalStateException("no room for another phase");
        }
        named.phases.add(new Phase(place, day, new Years(from, to)));
        return named.phases.size();
    }

    public int width(int years) throws IllegalArgumentException {
        if (years < 0 || years > MOST_YEARS_ABOUT) {
            throw new IllegalArgumentException("no width");
        }
        int was = yearsAbout;
        yearsAbout = years;
        return was;
    }

    public int read(int place, int day)
            throws IndexOutOfBoundsException, IllegalArgumentException, IllegalStateException {
        checkPlace(place);
        checkDay(day);
        checkRoomForSpan();
        boolean isWord = findWordFrom(0, 0, place, day);
        pad.empty();
        return isWord ? keepFound() : NONE;
    }

    public int span(int from, int to) throws IllegalArgumentException, IllegalStateException {
        checkYears(from, to);
        checkRoomForSpan();
        found.become(from, to);
        return keepFound();
    }

    public int end(int span, int which) throws IndexOutOfBoundsException, IllegalStateException {
        Years years = spanNumbered(span);
        checkEnd(which);
        if (years.isOpenAt(which)) {
            throw new IllegalStateException("the span is open there");
        }
        return which == 0 ? years.from : years.to;
    }

    public boolean open(int span, int which) throws IndexOutOfBoundsException {
        Years years = spanNumbered(span);
        checkEnd(which);
        return years.isOpenAt(which);
    }

    public int join(int a, int b) throws IndexOutOfBoundsException, IllegalStateException {
        Years one = spanNumbered(a);
        Years other = spanNumbered(b);
        checkRoomForSpan();
        found.copyOf(one);
        found.growTo(other);
        return keepFound();
    }

    public int relations(int a, int b) throws IndexOutOfBoundsException {
        Years one = spanNumbered(a);
        Years other = spanNumbered(b);
        int bits = relationsAhead(one, other) | relationsOfSharing(one, other);
        if (relationsAhead(other, one) != 0) {
            bits |= 1 << OTHER_WAY_ROUND;
        }
        return bits;
    }

    public int relation(int a, int b) throws IndexOutOfBoundsException, IllegalStateException {
        Years one = spanNumbered(a);
        Years other = spanNumbered(b);
        if (one.isOpen() || other.isOpen()) {
            throw new IllegalStateException("a span is open");
        }
        return relationOf(one, other);
    }

    public int word(int span, int i) throws IndexOutOfBoundsException {
        findShortest(spanNumbered(span));
        if (i == NONE) {
            return shortest.length == 0 ? NONE : shortest.length;
        }
        if (i < 0 || i >= shortest.length) {
            throw new IndexOutOfBoundsException("no such sign");
        }
        return shortest.at(i);
    }

    public int near() {
        int nearest = NONE;
        int fewest = 0;
        for (int i = 0; i < names.size(); i++) {
            int needed = changesTo(names.get(i).letters);
            if (nearest == NONE || needed < fewest) {
                nearest = i;
                fewest = needed;
            }
        }
        return nearest;
    }

    public int feast(int year, int month, int weekday, int k) throws IllegalArgumentException {
        if (!isYear(year) || month < 1 || month > MONTH_DAYS.length || weekday < 0 || weekday >= WEEK) {
            throw new IllegalArgumentException("no year, month or day of the week");
        }
        if (k != NONE && (k < 1 || k > MOST_IN_MONTH)) {
            throw new IllegalArgumentException("no such one of the month");
        }
        int days = daysIn(year, month);
        int first = 1 + Math.floorMod(weekday - firstWeekday(year, month), WEEK);
        if (k == NONE) {
            return first + (days - first) / WEEK * WEEK;
        }
        int day = first + (k - 1) * WEEK;
        return day <= days ? day : 0;
    }

    public int regnal(int name, int n)
            throws IndexOutOfBoundsException, IllegalArgumentException, IllegalStateException {
        Years reigned = nameNumbered(name).reigned;
        if (n < 1) {
            throw new IllegalArgumentException("no year of a reign");
        }
        if (reigned == null || n > reigned.length()) {
            throw new IllegalStateException("no reign, or one that is too short");
        }
        return reigned.from + n - 1;
    }

    public int count(int what) throws IndexOutOfBoundsException {
        switch (what) {
            case 0:
                return pad.length;
            case 1:
                return names.size();
            case 2:
                return spans.size();
            default:
                throw new IndexOutOfBoundsException("nothing to count");
        }
    }

    // What calls are refused for.

    private Name nameNumbered(int number) {
        if (number < 0 || number >= names.size()) {
            throw new IndexOutOfBoundsException("no such name");
        }
        return names.get(number);
    }

    private Years spanNumbered(int number) {
        if (number < 0 || number >= spans.size()) {
            throw new IndexOutOfBoundsException("no such span");
        }
        return spans.get(number);
    }

    private void checkRoomForSpan() {
        if (spans.size() >= MOST_SPANS) {
            throw new IllegalStateException("no room for another span");
        }
    }

    private static void checkPlace(int place) {
        if (place < 0 || place >= PLACES) {
            throw new IndexOutOfBoundsException("no such place");
        }
    }

    private static void checkEnd(int which) {
        if (which != 0 && which != 1) {
            throw new IndexOutOfBoundsException("no such end");
        }
    }

    private static void checkYears(int from, int to) {
        if (!isYear(from) || !isYear(to) || from > to) {
            throw new IllegalArgumentException("no years from one to another");
        }
    }

    private static void checkDay(int day) {
        if (day < 0 || day > LAST_DAY) {
            throw new IllegalArgumentException("no day");
        }
    }

    private static boolean isYear(int year) {
        return year >= FIRST_YEAR && year <= LAST_YEAR;
    }

    private static boolean isSign(int sign) {
        return isLetter(sign) || isDigit(sign) || sign == ' ';
    }

    private static boolean isLetter(int sign) {
        return sign >= 'a' && sign <= 'z';
    }

    private static boolean isDigit(int sign) {
        return sign >= '0' && sign <= '9';
    }

    // Names and spans.

    private boolean padMayBeName() {
        if (pad.length < 1 || pad.length > MOST_LETTERS) {
            return false;
        }
        for (int i = 0; i < pad.length; i++) {
            if (!isLetter(pad.at(i))) {
                return false;
            }
        }
        return true;
    }

    /** The number of the name that the pad is from a sign on, or NONE. */
    private int nameFrom(int start) {
        for (int i = 0; i < names.size(); i++) {
            if (pad.endsWith(start, names.get(i).letters)) {
                return i;
            }
        }
        return NONE;
    }

    private int keepFound() {
        Years kept = new Years(0, 0);
        kept.copyOf(found);
        spans.add(kept);
        return spans.size() - 1;
    }

    // Reading: each of these leaves its years in found and tells whether there is a word.

    private boolean findWordFrom(int start, int ahead, int place, int day) {
        int kind = beginningAt(start);
        if (kind == NONE) {
            return findCenturyFrom(start) || findNameFrom(start, place, day);
        }
        if (ahead >= MOST_BEGINNINGS) {
            return false;
        }
        return findWordFrom(start + beginning(kind).length(), ahead + 1, place, day) && begin(kind);
    }

    private int beginningAt(int start) {
        for (int kind = 0; kind < KINDS; kind++) {
            if (pad.holds(start, beginning(kind))) {
                return kind;
            }
        }
        return NONE;
    }

    private static String beginning(int kind) {
        switch (kind) {
            case EARLY:
                return "early ";
            case MID:
                return "mid ";
            case LATE:
                return "late ";
            case ABOUT:
                return "about ";
            case BEFORE:
                return "before ";
            case AFTER:
                return "after ";
            default:
                return "";
        }
    }

    private boolean begin(int kind) {
        switch (kind) {
            case ABOUT:
                return found.widen(yearsAbout);
            case BEFORE:
                return found.turnBefore();
            case AFTER:
                return found.turnAfter();
            default:
                return found.takeThird(kind);
        }
    }

    private boolean findCenturyFrom(int start) {
        int last = pad.length - 1;
        int digits = last - start;
        if (digits < 1 || digits > 2 || pad.at(last) != 'c') {
            return false;
        }
        int number = 0;
        for (int i = start; i < last; i++) {
            if (!isDigit(pad.at(i))) {
                return false;
            }
            number = 10 * number + pad.at(i) - '0';
        }
        return findCentury(number);
    }

    private boolean findCentury(int number) {
        if (number < 1 || number > LAST_CENTURY) {
            return false;
        }
        found.become(CENTURY_YEARS * (number - 1) + 1, CENTURY_YEARS * number);
        return true;
    }

    private boolean findNameFrom(int start, int place, int day) {
        int number = nameFrom(start);
        return number != NONE && findName(names.get(number), place, day);
    }

    private boolean findName(Name named, int place, int day) {
        Years years = named.yearsAt(place, day);
        if (years == null) {
            return false;
        }
        found.copyOf(years);
        return true;
    }

    // The shortest word: what is tried lies in found, as text in trial, the best one in shortest.

    private void findShortest(Years told) {
        shortest.empty();
        if (told.openFrom && told.openTo) {
            return;
        }
        int century = Math.floorDiv(yearSaid(told) - 1, CENTURY_YEARS) + 1;
        for (int kind = WHOLE; kind <= LATE; kind++) {
            tryCentury(told, century, kind);
        }
        for (int i = 0; i < names.size(); i++) {
            tryName(told, names.get(i));
        }
    }

    /** A year that what says told, or what "before" or "after" stands ahead of, must hold. */
    private static int yearSaid(Years told) {
        if (told.openFrom) {
            return told.to + 1;
        }
        return told.openTo ? told.from - 1 : told.from;
    }

    private void tryCentury(Years told, int century, int kind) {
        boolean isWord = findCentury(century) && (kind == WHOLE || found.takeThird(kind));
        if (!isWord || !foundSays(told)) {
            return;
        }
        startTrial(told);
        trial.addText(beginning(kind));
        if (century >= 10) {
            trial.add('0' + century / 10);
        }
        trial.add('0' + century % 10);
        trial.add('c');
        keepShorter();
    }

    private void tryName(Years told, Name named) {
        if (!findName(named, 0, LAST_DAY) || !foundSays(told)) {
            return;
        }
        startTrial(told);
        trial.addRow(named.letters);
        keepShorter();
    }

    private boolean foundSays(Years told) {
        if (told.openFrom) {
            return found.from == told.to + 1;
        }
        if (told.openTo) {
            return found.to == told.from - 1;
        }
        return found.from == told.from && found.to == told.to;
    }

    private void startTrial(Years told) {
        trial.empty();
        if (told.openFrom) {
            trial.addText(beginning(BEFORE));
        } else if (told.openTo) {
            trial.addText(beginning(AFTER));
        }
    }

    private void keepShorter() {
        if (shortest.length == 0 || trial.isAheadOf(shortest)) {
            shortest.empty();
            shortest.addRow(trial);
        }
    }

    /** How many letters must be changed, put in or left out to make the pad these letters. */
    private int changesTo(Row letters) {
        for (int j = 0; j <= letters.length && j < changes.length; j++) {
            changes[j] = j;
        }
        int needed = letters.length;
        for (int i = 0; i < pad.length; i++) {
            needed = changesWithSign(i, letters);
        }
        return needed;
    }

    /** Turns changes from the pad's first i signs to its first i + 1; answers the last of them. */
    private int changesWithSign(int i, Row letters) {
        int diagonal = changes[0];
        int left = i + 1;
        changes[0] = left;
        for (int j = 1; j <= letters.length && j < changes.length; j++) {
            int changed = diagonal + (pad.at(i) == letters.at(j - 1) ? 0 : 1);
            diagonal = changes[j];
            left = Math.min(changed, Math.min(diagonal, left) + 1);
            changes[j] = left;
        }
        return left;
    }

    // Relations. An open end's year is the first or last one there is, which promise 13 asks for.

    private static int relationOf(Years a, Years b) {
        if (a.from == b.from && a.to == b.to) {
            return IS_SAME;
        }
        if (a.from >= b.from && a.to <= b.to) {
            return IS_WITHIN;
        }
        if (a.from <= b.from && a.to >= b.to) {
            return IS_AROUND;
        }
        if (a.from > b.from) {
            return OTHER_WAY_ROUND;
        }
        if (a.to + 1 < b.from) {
            return IS_BEFORE;
        }
        return a.to + 1 == b.from ? MEETS : OVERLAPS;
    }

    /** Which of before, meets and overlaps a span within a may have to one within b. */
    private static int relationsAhead(Years a, Years b) {
        int bits = 0;
        // Where the span within b may first begin, if the one within a begins ahead of it.
        int earliest = Math.max(a.from + 1, b.from);
        if (a.from + 1 < b.to) {
            bits |= 1 << IS_BEFORE;
        }
        if (earliest <= Math.min(a.to + 1, b.to)) {
            bits |= 1 << MEETS;
        }
        if (earliest <= Math.min(a.to, b.to - 1)) {
            bits |= 1 << OVERLAPS;
        }
        return bits;
    }

    /** Which of same, within and around a span within a may have to one within b. */
    private static int relationsOfSharing(Years a, Years b) {
        if (Math.max(a.from, b.from) > Math.min(a.to, b.to)) {
            return 0;
        }
        int bits = 1 << IS_SAME;
        if (b.length() > 1) {
            bits |= 1 << IS_WITHIN;
        }
        if (a.length() > 1) {
            bits |= 1 << IS_AROUND;
        }
        return bits;
    }

    // The calendar.

    private static boolean isLeapYear(int year) {
        return year % 4 == 0 && (year % 100 != 0 || year % 400 == 0);
    }

    private static int daysIn(int year, int month) {
        if (month < 1 || month > MONTH_DAYS.length) {
            return 0;
        }
        return MONTH_DAYS[month - 1] + (month == FEBRUARY && isLeapYear(year) ? 1 : 0);
    }

    private static int firstWeekday(int year, int month) {
        int before = year - 1;
        int days = 365 * before + Math.floorDiv(before, 4) - Math.floorDiv(before, 100) + Math.floorDiv(before, 400);
        for (int m = 1; m < month && m <= MONTH_DAYS.length; m++) {
            days += daysIn(year, m);
        }
        return Math.floorMod(days, WEEK);
    }

    /** Signs one behind another, as many as there is room for. */
    private static final class Row {
        final int[] signs;
        int length;

        Row(int most) {
            signs = new int[most < 0 ? 0 : most];
            length = 0;
        }

        int at(int i) {
            return i >= 0 && i < length && i < signs.length ? signs[i] : NONE;
        }

        void empty() {
            length = 0;
        }

        void add(int sign) {
            if (length >= 0 && length < signs.length) {
                signs[length] = sign;
                length++;
            }
        }

        void addText(String text) {
            for (int i = 0; i < text.length(); i++) {
                add(text.charAt(i));
            }
        }

        void addRow(Row other) {
            for (int i = 0; i < other.length; i++) {
                add(other.at(i));
            }
        }

        boolean holds(int start, String text) {
            for (int i = 0; i < text.length(); i++) {
                if (at(start + i) != text.charAt(i)) {
                    return false;
                }
            }
            return true;
        }

        /** Whether the other row is all that stands here from a sign on. */
        boolean endsWith(int start, Row other) {
            if (length - start != other.length) {
                return false;
            }
            for (int i = 0; i < other.length; i++) {
                if (at(start + i) != other.at(i)) {
                    return false;
                }
            }
            return true;
        }

        boolean isAheadOf(Row other) {
            if (length != other.length) {
                return length < other.length;
            }
            for (int i = 0; i < length; i++) {
                if (at(i) != other.at(i)) {
                    return at(i) < other.at(i);
                }
            }
            return false;
        }
    }

    /** Years from one to another; at an open end stands the first or last year there is. */
    private static final class Years {
        int from;
        int to;
        boolean openFrom;
        boolean openTo;

        Years(int from, int to) {
            this.from = from;
            this.to = to;
            openFrom = false;
            openTo = false;
        }

        void become(int newFrom, int newTo) {
            from = newFrom;
            to = newTo;
            openFrom = false;
            openTo = false;
        }

        void copyOf(Years other) {
            from = other.from;
            to = other.to;
            openFrom = other.openFrom;
            openTo = other.openTo;
        }

        boolean isOpen() {
            return openFrom || openTo;
        }

        boolean isOpenAt(int which) {
            return which == 0 ? openFrom : openTo;
        }

        int length() {
            return to - from + 1;
        }

        void growTo(Years other) {
            from = Math.min(from, other.from);
            to = Math.max(to, other.to);
            openFrom = openFrom || other.openFrom;
            openTo = openTo || other.openTo;
        }

        // What the beginnings make of years; false, and nothing changed, if that is no word.

        boolean takeThird(int which) {
            int third = length() / 3;
            if (isOpen() || third < 1 || which < EARLY || which > LATE) {
                return false;
            }
            from += which * third;
            if (which != LATE) {
                to = from + third - 1;
            }
            return true;
        }

        boolean widen(int by) {
            if (isOpen()) {
                return false;
            }
            from = Math.max(FIRST_YEAR, from - by);
            to = Math.min(LAST_YEAR, to + by);
            return true;
        }

        boolean turnBefore() {
            if (isOpen() || from == FIRST_YEAR) {
                return false;
            }
            to = from - 1;
            from = FIRST_YEAR;
            openFrom = true;
            return true;
        }

        boolean turnAfter() {
            if (isOpen() || to == LAST_YEAR) {
                return false;
            }
            from = to + 1;
            to = LAST_YEAR;
            openTo = true;
            return true;
        }
    }

    private static final class Phase {
        final int place;
        final int day;
        final Years years;

        Phase(int place, int day, Years years) {
            this.place = place;
            this.day = day;
            this.years = years;
        }
    }

    /** A name with what it stands for; reigned is null as long as it has no reign. */
    private static final class Name {
        final Row letters;
        final ArrayList<Phase> phases;
        Years reigned;

        Name(Row row) {
            letters = new Row(MOST_LETTERS);
            letters.addRow(row);
            phases = new ArrayList<>();
            reigned = null;
        }

        /** The years that the name stands for at a place on a day of use, or null. */
        Years yearsAt(int place, int day) {
            Years best = reigned;
            int bestDay = NONE;
            for (int i = 0; i < phases.size(); i++) {
                Phase told = phases.get(i);
                if (told.place == place && told.day <= day && told.day >= bestDay) {
                    best = told.years;
                    bestDay = told.day;
                }
            }
            return best;
        }
    }
}
