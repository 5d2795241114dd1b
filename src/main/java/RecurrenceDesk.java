import java.util.NoSuchElementException;

/** Calendars of four people: recurring events read from text, busy times and common free times. */
public final class RecurrenceDesk {
    public static final int BAD = -1000000;

    private static final int FIRST_YEAR = 2000;
    private static final int LAST_YEAR = 2019;
    private static final int LAST_DAY = 7304;
    private static final int LAST_MINUTE = 10519199;
    private static final int MINUTES_OF_A_DAY = 1440;

    private static final int ZONES = 3;
    private static final int MOST_CHANGES = 8;
    private static final int MOST_OFFSET = 840;

    private static final int PEOPLE = 4;
    private static final int MOST_EVENTS = 4;
    private static final int MOST_INSTANCES = 40;
    private static final int MOST_STRETCHES = MOST_EVENTS * MOST_INSTANCES;

    private static final int MOST_CHARACTERS = 240;
    private static final int MOST_TYPED = 8;
    private static final char LINE_END = 10;
    private static final char BLANK = 32;
    private static final char LAST_CHARACTER = 126;

    private static final int MOST_TIME_LINES = 3;
    private static final int MOST_TIMES_OF_A_LINE = 6;

    private final Zone[] zones = new Zone[ZONES];
    private final Person[] persons = new Person[PEOPLE];
    private final Text text = new Text();
    private final Reader reader = new Reader();
    private final Draft draft = new Draft();
    private final Expansion expansion = new Expansion();

    public RecurrenceDesk() {
        for (int i = 0; i < zones.length; i++) {
            zones[i] = new Zone();
        }
        for (int i = 0; i < persons.length; i++) {
            persons[i] = new Person();
        }
    }

    public int change(int zone, int minute, int offset) throws IllegalArgumentException, IllegalStateException {
        if (!isZone(zone) || !isMinute(minute) || minute <= zones[zone].latestChange()) {
            throw new IllegalArgumentException("no such zone, or no later minute");
        }
        if (offset < -MOST_OFFSET || offset > MOST_OFFSET) {
            throw new IllegalArgumentException("the offset is out of its bounds");
        }
        if (zones[zone].isFull()) {
            throw new IllegalStateException("the zone has all its changes");
        }
        return zones[zone].append(minute, offset);
    }

    public int type(long characters, int n) {
        return text.append(characters, n) ? text.length() : BAD;
    }

    public int wipe() {
        return text.clear();
    }

    public int book(int person) throws IllegalArgumentException, IllegalStateException {
        if (!isPerson(person)) {
            throw new IllegalArgumentException("no such person");
        }
        reader.load(text);
        if (!draft.readFrom(reader)) {
            throw new IllegalArgumentException("the text is no event");
        }
        Event event = persons[person].spare();
        if (event == null) {
            throw new IllegalStateException("the person has all their events");
        }
        expansion.fill(event, draft);
        if (isZone(draft.zone())) {
            event.moveToWorld(zones[draft.zone()]);
        }
        persons[person].keepSpare();
        text.clear();
        return event.size();
    }

    public int cancel(int person, int event) throws IllegalArgumentException {
        if (!isPerson(person) || !persons[person].has(event)) {
            throw new IllegalArgumentException("no such event");
        }
        return persons[person].remove(event);
    }

    public int events(int person) {
        return isPerson(person) ? persons[person].size() : BAD;
    }

    public int instances(int person, int event) {
        return isPerson(person) ? persons[person].instanceCount(event) : BAD;
    }

    public int instance(int person, int event, int i) {
        return isPerson(person) ? persons[person].instanceStart(event, i) : BAD;
    }

    public int world(int zone, int minute) {
        return isZone(zone) && isMinute(minute) ? zones[zone].toWorld(minute) : BAD;
    }

    public boolean busy(int person, int minute) {
        return isPerson(person) && persons[person].busyTimes().cover(minute);
    }

    public int stretches(int person) {
        return isPerson(person) ? persons[person].busyTimes().size() : BAD;
    }

    public int stretch(int person, int i, int end) {
        if (!isPerson(person)) {
            return BAD;
        }
        BusyTimes times = persons[person].busyTimes();
        if (end == 0) {
            return times.first(i);
        }
        return end == 1 ? times.behind(i) : BAD;
    }

    public int slot(int people, int from, int to, int length)
            throws IllegalArgumentException, NoSuchElementException {
        if (people < 0 || people >= 1 << PEOPLE || !isMinute(from) || !isMinute(to)) {
            throw new IllegalArgumentException("no such people or minutes");
        }
        if (length < 1 || length > MINUTES_OF_A_DAY) {
            throw new IllegalArgumentException("the length is out of its bounds");
        }
        int latest = to - length;
        int minute = from;
        boolean moved = true;
        // Each round that moves leaves a stretch behind for good, so there are no more than stretches.
        for (int round = 0; moved && minute <= latest && round <= PEOPLE * MOST_STRETCHES; round++) {
            int later = passStretches(people, minute, length);
            moved = later > minute;
            minute = later;
        }
        if (minute > latest) {
            throw new NoSuchElementException("they are not free together");
        }
        return minute;
    }

    private int passStretches(int people, int from, int length) {
        int minute = from;
        for (int p = 0; p < persons.length; p++) {
            if ((people >> p & 1) == 1) {
                minute = persons[p].busyTimes().freeFrom(minute, length);
            }
        }
        return minute;
    }

    private boolean isPerson(int person) {
        return person >= 0 && person < persons.length;
    }

    private boolean isZone(int zone) {
        return zone >= 0 && zone < zones.length;
    }

    private static boolean isMinute(int minute) {
        return minute >= 0 && minute <= LAST_MINUTE;
    }

    /** The changes of a zone's clocks, in their order. */
    private static final class Zone {
        private final int[] minutes = new int[MOST_CHANGES];
        private final int[] offsets = new int[MOST_CHANGES];
        private int size;

        boolean isFull() {
            return size >= minutes.length;
        }

        int latestChange() {
            return size > 0 ? minutes[size - 1] : -1;
        }

        int append(int minute, int offset) {
            if (!isFull()) {
                minutes[size] = minute;
                offsets[size] = offset;
                size++;
            }
            return size;
        }

        int toWorld(int local) {
            // The times between changes are tried in their order, so the first that has it has the least.
            for (int i = 0; i <= size; i++) {
                int minute = local - offsetBefore(i);
                if ((i == 0 || minute >= minutes[i - 1]) && (i == size || minute < minutes[i])) {
                    return minute;
                }
            }
            for (int i = 0; i < size; i++) {
                if (minutes[i] + offsetBefore(i) <= local && minutes[i] + offsets[i] > local) {
                    return local - offsetBefore(i);
                }
            }
            // Never reached: a minute that no time between changes has is left out by a change.
            return local;
        }

        private int offsetBefore(int change) {
            return change > 0 ? offsets[change - 1] : 0;
        }
    }

    /** What has been typed and not been booked. */
    private static final class Text {
        private final char[] row = new char[MOST_CHARACTERS];
        private int size;

        int length() {
            return size;
        }

        int clear() {
            int had = size;
            size = 0;
            return had;
        }

        boolean append(long characters, int n) {
            if (n < 1 || n > MOST_TYPED || size + n > row.length) {
                return false;
            }
            for (int i = 0; i < n; i++) {
                int character = byteOf(characters, n - 1 - i);
                if (character != LINE_END && (character < BLANK || character > LAST_CHARACTER)) {
                    return false;
                }
                row[size + i] = (char) character;
            }
            size += n;
            return true;
        }

        int unfoldInto(char[] target) {
            int kept = 0;
            for (int i = 0; i < size; i++) {
                boolean fold = row[i] == LINE_END && i + 1 < size && row[i + 1] == BLANK;
                boolean behindFold = row[i] == BLANK && i > 0 && row[i - 1] == LINE_END;
                if (!fold && !behindFold && kept < target.length) {
                    target[kept] = row[i];
                    kept++;
                }
            }
            return kept;
        }

        private static int byteOf(long characters, int place) {
            return (int) (characters >>> 8 * place) & 255;
        }
    }

    /** Takes pieces from the front of an unfolded text; a number that cannot be taken makes the text no event. */
    private static final class Reader {
        private static final String WEEKDAYS = "MOTUWETHFRSASU";

        private final char[] row = new char[MOST_CHARACTERS];
        private int size;
        private int at;

        void load(Text text) {
            size = text.unfoldInto(row);
            at = 0;
        }

        boolean isAtEnd() {
            return at >= size;
        }

        boolean take(char character) {
            if (at < size && row[at] == character) {
                at++;
                return true;
            }
            return false;
        }

        boolean takeWord(String word) {
            if (word.length() > size - at) {
                return false;
            }
            for (int i = 0; i < word.length(); i++) {
                if (row[at + i] != word.charAt(i)) {
                    return false;
                }
            }
            at += word.length();
            return true;
        }

        boolean isAtNumber() {
            return at < size && (row[at] == '-' || row[at] >= '0' && row[at] <= '9');
        }

        /** From 1 to most and without zeros in front; 0 if there is no such number. */
        int takeNumber(int most) {
            if (at < size && row[at] == '0') {
                return 0;
            }
            int value = 0;
            while (at < size && value <= most && row[at] >= '0' && row[at] <= '9') {
                value = 10 * value + row[at] - '0';
                at++;
            }
            return value <= most ? value : 0;
        }

        /** From 1 to most or from -1 to -most; 0 if there is no such number. */
        int takeSignedNumber(int most) {
            return take('-') ? -takeNumber(most) : takeNumber(most);
        }

        /** A number of exactly n digits, or -1. */
        int takeDigits(int n) {
            int value = 0;
            for (int i = 0; i < n; i++) {
                if (at >= size || row[at] < '0' || row[at] > '9') {
                    return -1;
                }
                value = 10 * value + row[at] - '0';
                at++;
            }
            return value;
        }

        /** A minute, or -1. */
        int takeTime() {
            int year = takeDigits(4);
            int month = takeDigits(2);
            int day = takeDigits(2);
            boolean parted = take('T');
            int hour = takeDigits(2);
            int minute = takeDigits(2);
            if (!parted || year < FIRST_YEAR || year > LAST_YEAR) {
                return -1;
            }
            if (day < 1 || day > Date.lengthOfMonth(year, month)) {
                return -1;
            }
            if (hour < 0 || hour > 23 || minute < 0 || minute > 59) {
                return -1;
            }
            return (Date.firstOfMonth(year, month) + day - 1) * MINUTES_OF_A_DAY + hour * 60 + minute;
        }

        /** From 0, Monday, to 6, or -1. */
        int takeWeekday() {
            for (int weekday = 0; weekday < 7 && at + 1 < size; weekday++) {
                if (row[at] == WEEKDAYS.charAt(2 * weekday) && row[at + 1] == WEEKDAYS.charAt(2 * weekday + 1)) {
                    at += 2;
                    return weekday;
                }
            }
            return -1;
        }
    }

    /** A day with its place in month, year and week. */
    private static final class Date {
        private static final int MONTHS = 12;
        private static final int[] DAYS_BEFORE_MONTH = {0, 31, 59, 90, 120, 151, 181, 212, 243, 273, 304, 334, 365};

        private int day;
        private int year;
        private int month;
        private int yearFirst;
        private int yearLength;
        private int monthFirst;
        private int monthLength;

        /** Of the years 2000 to 2019 just every fourth one is a leap year. */
        static int firstOfMonth(int year, int month) {
            if (month < 1 || month > MONTHS) {
                return 0;
            }
            int years = year - FIRST_YEAR;
            int leapDays = (years + 3) / 4 + (month > 2 && years % 4 == 0 ? 1 : 0);
            return 365 * years + leapDays + DAYS_BEFORE_MONTH[month - 1];
        }

        static int lengthOfMonth(int year, int month) {
            if (month < 1 || month > MONTHS) {
                return 0;
            }
            int leapDay = month == 2 && year % 4 == 0 ? 1 : 0;
            return DAYS_BEFORE_MONTH[month] - DAYS_BEFORE_MONTH[month - 1] + leapDay;
        }

        void moveTo(int newDay) {
            day = newDay;
            // Days are mostly asked one after another, so the month is rarely looked for.
            if (day < monthFirst || day >= monthFirst + monthLength) {
                findMonth();
            }
        }

        private void findMonth() {
            year = FIRST_YEAR;
            while (year < LAST_YEAR && firstOfMonth(year + 1, 1) <= day) {
                year++;
            }
            yearFirst = firstOfMonth(year, 1);
            yearLength = firstOfMonth(year + 1, 1) - yearFirst;
            month = 1;
            while (month < MONTHS && firstOfMonth(year, month + 1) <= day) {
                month++;
            }
            monthFirst = firstOfMonth(year, month);
            monthLength = lengthOfMonth(year, month);
        }

        int day() {
            return day;
        }

        int year() {
            return year;
        }

        int month() {
            return month;
        }

        /** Months since the first month of all. */
        int monthNumber() {
            return (year - FIRST_YEAR) * MONTHS + month - 1;
        }

        int weekday() {
            return (day + 5) % 7;
        }

        int dayOfMonth() {
            return day - monthFirst + 1;
        }

        /** The same day of the month as a count from its end, 1 being the last one. */
        int dayOfMonthFromEnd() {
            return monthFirst + monthLength - day;
        }

        int yearLength() {
            return yearLength;
        }

        int monthLength() {
            return monthLength;
        }

        int dayOfYear() {
            return day - yearFirst + 1;
        }

        int dayOfYearFromEnd() {
            return yearFirst + yearLength - day;
        }
    }

    /** What stands behind RRULE, and the days that it names. */
    private static final class Rule {
        private static final int DAILY = 1;
        private static final int WEEKLY = 2;
        private static final int MONTHLY = 3;
        private static final int YEARLY = 4;

        private static final int INTERVAL = 1;
        private static final int COUNT = 2;
        private static final int UNTIL = 4;
        private static final int BYMONTH = 8;
        private static final int BYMONTHDAY = 16;
        private static final int BYDAY = 32;
        private static final int BYSETPOS = 64;
        private static final int WKST = 128;
        private static final int LISTS = BYMONTH | BYMONTHDAY | BYDAY | BYSETPOS;
        private static final int PARTS = 8;

        private static final int MOST_VALUES = 8;
        private static final int MOST_NUMBER = 99;
        private static final int MOST_WEEKS = 53;

        private int frequency;
        private int given;
        private int interval;
        private int count;
        private int until;
        private int weekStart;
        private int months;
        private int monthDays;
        private int monthDaysFromEnd;
        private int weekdays;
        private final int[] numberedWeekdays = new int[MOST_VALUES];
        private final int[] weekdayNumbers = new int[MOST_VALUES];
        private int numberedSize;
        private final int[] positions = new int[MOST_VALUES];
        private int positionsSize;

        boolean readFrom(Reader in) {
            reset();
            frequency = takeFrequency(in);
            if (frequency == 0) {
                return false;
            }
            for (int i = 0; i < PARTS && in.take(';'); i++) {
                if (!readPart(in)) {
                    return false;
                }
            }
            return partsAgree();
        }

        private void reset() {
            given = 0;
            interval = 1;
            count = LAST_DAY + 2;
            until = LAST_MINUTE;
            weekStart = 0;
            months = 0;
            monthDays = 0;
            monthDaysFromEnd = 0;
            weekdays = 0;
            numberedSize = 0;
            positionsSize = 0;
        }

        private static int takeFrequency(Reader in) {
            if (in.takeWord("FREQ=DAILY")) {
                return DAILY;
            }
            if (in.takeWord("FREQ=WEEKLY")) {
                return WEEKLY;
            }
            if (in.takeWord("FREQ=MONTHLY")) {
                return MONTHLY;
            }
            return in.takeWord("FREQ=YEARLY") ? YEARLY : 0;
        }

        private boolean readPart(Reader in) {
            int part = takePartName(in);
            if (part == 0 || has(part)) {
                return false;
            }
            given |= part;
            int most = (part & LISTS) != 0 ? MOST_VALUES : 1;
            for (int i = 0; i < most; i++) {
                if (!readValue(in, part)) {
                    return false;
                }
                if (!in.take(',')) {
                    return true;
                }
            }
            return false;
        }

        private static int takePartName(Reader in) {
            if (in.takeWord("INTERVAL=")) {
                return INTERVAL;
            }
            if (in.takeWord("COUNT=")) {
                return COUNT;
            }
            if (in.takeWord("UNTIL=")) {
                return UNTIL;
            }
            if (in.takeWord("BYMONTH=")) {
                return BYMONTH;
            }
            if (in.takeWord("BYMONTHDAY=")) {
                return BYMONTHDAY;
            }
            if (in.takeWord("BYDAY=")) {
                return BYDAY;
            }
            if (in.takeWord("BYSETPOS=")) {
                return BYSETPOS;
            }
            return in.takeWord("WKST=") ? WKST : 0;
        }

        private boolean readValue(Reader in, int part) {
            switch (part) {
                case INTERVAL:
                    interval = in.takeNumber(MOST_NUMBER);
                    return interval > 0;
                case COUNT:
                    count = in.takeNumber(MOST_NUMBER);
                    return count > 0;
                case UNTIL:
                    until = in.takeTime();
                    return until >= 0;
                case BYMONTH:
                    return addMonth(in.takeNumber(12));
                case BYMONTHDAY:
                    return addMonthDay(in.takeSignedNumber(31));
                case BYDAY:
                    return addWeekday(in.isAtNumber(), in.takeSignedNumber(MOST_WEEKS), in.takeWeekday());
                case BYSETPOS:
                    return addPosition(in.takeSignedNumber(MOST_NUMBER));
                default:
                    weekStart = in.takeWeekday();
                    return weekStart >= 0;
            }
        }

        private boolean addMonth(int month) {
            months |= 1 << month;
            return month > 0;
        }

        private boolean addMonthDay(int monthDay) {
            if (monthDay > 0) {
                monthDays |= 1 << monthDay;
            } else {
                monthDaysFromEnd |= 1 << -monthDay;
            }
            return monthDay != 0;
        }

        private boolean addWeekday(boolean numbered, int number, int weekday) {
            if (weekday < 0 || numbered && number == 0) {
                return false;
            }
            if (!numbered) {
                weekdays |= 1 << weekday;
            } else if (numberedSize < numberedWeekdays.length) {
                numberedWeekdays[numberedSize] = weekday;
                weekdayNumbers[numberedSize] = number;
                numberedSize++;
            }
            return true;
        }

        private boolean addPosition(int position) {
            if (positionsSize < positions.length) {
                positions[positionsSize] = position;
                positionsSize++;
            }
            return position != 0;
        }

        private boolean partsAgree() {
            if (has(COUNT) && has(UNTIL) || has(BYMONTHDAY) && frequency == WEEKLY) {
                return false;
            }
            if (numberedSize > 0 && frequency != MONTHLY && frequency != YEARLY) {
                return false;
            }
            return !has(BYSETPOS) || has(BYMONTH) || has(BYMONTHDAY) || has(BYDAY);
        }

        private boolean has(int part) {
            return (given & part) != 0;
        }

        int count() {
            return count;
        }

        int until() {
            return until;
        }

        /** The first day of a period that counts, the start's being number 0; may lie outside of all days. */
        int periodFirst(int number, Date start) {
            int step = number * interval;
            if (frequency == DAILY) {
                return start.day() + step;
            }
            if (frequency == WEEKLY) {
                return start.day() - (start.weekday() - weekStart + 7) % 7 + 7 * step;
            }
            if (frequency == MONTHLY) {
                int month = start.monthNumber() + step;
                return Date.firstOfMonth(FIRST_YEAR + month / Date.MONTHS, month % Date.MONTHS + 1);
            }
            return Date.firstOfMonth(start.year() + step, 1);
        }

        /** How many days the period has that begins with a day, those outside of all days counted too. */
        int periodLength(Date first) {
            if (frequency == DAILY) {
                return 1;
            }
            if (frequency == WEEKLY) {
                return 7;
            }
            return frequency == MONTHLY ? first.monthLength() : first.yearLength();
        }

        boolean fits(Date date, Date start) {
            if (has(BYMONTH) && (months >> date.month() & 1) == 0) {
                return false;
            }
            if (has(BYMONTHDAY) && !isOneOfMonthDays(date)) {
                return false;
            }
            if (has(BYDAY) && !isOneOfWeekdays(date)) {
                return false;
            }
            return fitsStart(date, start);
        }

        private boolean isOneOfMonthDays(Date date) {
            return (monthDays >> date.dayOfMonth() & 1) == 1
                    || (monthDaysFromEnd >> date.dayOfMonthFromEnd() & 1) == 1;
        }

        private boolean isOneOfWeekdays(Date date) {
            int weekday = date.weekday();
            if ((weekdays >> weekday & 1) == 1) {
                return true;
            }
            if (numberedSize == 0) {
                return false;
            }
            boolean inMonth = frequency == MONTHLY || has(BYMONTH);
            int number = weekOf(inMonth ? date.dayOfMonth() : date.dayOfYear());
            int numberFromEnd = -weekOf(inMonth ? date.dayOfMonthFromEnd() : date.dayOfYearFromEnd());
            for (int i = 0; i < numberedSize; i++) {
                boolean sameNumber = weekdayNumbers[i] == number || weekdayNumbers[i] == numberFromEnd;
                if (sameNumber && numberedWeekdays[i] == weekday) {
                    return true;
                }
            }
            return false;
        }

        private static int weekOf(int dayCount) {
            return (dayCount + 6) / 7;
        }

        /** What the parts leave open is taken from the start's day. */
        private boolean fitsStart(Date date, Date start) {
            if (frequency == WEEKLY) {
                return has(BYDAY) || date.weekday() == start.weekday();
            }
            if (frequency == DAILY || has(BYMONTHDAY) || has(BYDAY)) {
                return true;
            }
            if (date.dayOfMonth() != start.dayOfMonth()) {
                return false;
            }
            return frequency == MONTHLY || has(BYMONTH) || date.month() == start.month();
        }

        /** Whether the day at an index, among so many days of a period that fit, stays. */
        boolean staysAt(int index, int fitting) {
            for (int i = 0; i < positionsSize; i++) {
                if (positions[i] == index + 1 || positions[i] == index - fitting) {
                    return true;
                }
            }
            return !has(BYSETPOS);
        }
    }

    /** The times of all lines EXDATE, or of all lines RDATE, of a text. */
    private static final class Times {
        private final int[] row = new int[MOST_TIME_LINES * MOST_TIMES_OF_A_LINE];
        private int size;

        void clear() {
            size = 0;
        }

        int size() {
            return size;
        }

        int get(int i) {
            return i >= 0 && i < size ? row[i] : -1;
        }

        boolean contain(int time) {
            for (int i = 0; i < size; i++) {
                if (row[i] == time) {
                    return true;
                }
            }
            return false;
        }

        boolean readLineFrom(Reader in) {
            for (int i = 0; i < MOST_TIMES_OF_A_LINE; i++) {
                int time = in.takeTime();
                if (time < 0 || size >= row.length) {
                    return false;
                }
                row[size] = time;
                size++;
                if (!in.take(',')) {
                    return in.take(LINE_END);
                }
            }
            return false;
        }
    }

    /** An event as its text tells it, in local minutes. */
    private static final class Draft {
        private static final int NO_ZONE = -1;

        private int zone;
        private int start;
        private int duration;
        private boolean recurring;
        private final Rule rule = new Rule();
        private final Times added = new Times();
        private final Times leftOut = new Times();

        boolean readFrom(Reader in) {
            if (!readStart(in) || !readDuration(in)) {
                return false;
            }
            recurring = in.takeWord("RRULE:");
            if (recurring && !(rule.readFrom(in) && in.take(LINE_END))) {
                return false;
            }
            return readTimes(in) && in.isAtEnd();
        }

        private boolean readStart(Reader in) {
            zone = NO_ZONE;
            if (!in.takeWord("DTSTART")) {
                return false;
            }
            if (in.takeWord(";TZID=")) {
                zone = in.takeDigits(1);
                if (zone < 0 || zone >= ZONES) {
                    return false;
                }
            }
            if (!in.take(':')) {
                return false;
            }
            start = in.takeTime();
            return start >= 0 && in.take(LINE_END);
        }

        private boolean readDuration(Reader in) {
            if (!in.takeWord("DURATION:PT")) {
                return false;
            }
            duration = in.takeNumber(MINUTES_OF_A_DAY);
            return duration > 0 && in.take('M') && in.take(LINE_END);
        }

        private boolean readTimes(Reader in) {
            added.clear();
            leftOut.clear();
            boolean good = true;
            for (int i = 0; good && i < MOST_TIME_LINES; i++) {
                if (in.takeWord("EXDATE:")) {
                    good = leftOut.readLineFrom(in);
                } else if (in.takeWord("RDATE:")) {
                    good = added.readLineFrom(in);
                }
            }
            return good;
        }

        int zone() {
            return zone;
        }

        int start() {
            return start;
        }

        int duration() {
            return duration;
        }

        boolean isRecurring() {
            return recurring;
        }

        Rule rule() {
            return rule;
        }

        Times added() {
            return added;
        }

        Times leftOut() {
            return leftOut;
        }
    }

    /** Finds the instances of a draft; its rows are made once and used for every booking. */
    private static final class Expansion {
        private static final int MOST_DAYS_OF_A_PERIOD = 366;

        private final Date start = new Date();
        private final Date date = new Date();
        private final int[] fitting = new int[MOST_DAYS_OF_A_PERIOD];
        private int fittingSize;

        void fill(Event event, Draft draft) {
            event.begin(draft.duration());
            offer(event, draft, draft.start());
            for (int i = 0; i < draft.added().size(); i++) {
                offer(event, draft, draft.added().get(i));
            }
            if (draft.isRecurring()) {
                offerRuleDays(event, draft);
            }
        }

        private static void offer(Event event, Draft draft, int minute) {
            if (!draft.leftOut().contain(minute)) {
                event.insert(minute);
            }
        }

        private void offerRuleDays(Event event, Draft draft) {
            Rule rule = draft.rule();
            start.moveTo(draft.start() / MINUTES_OF_A_DAY);
            int time = draft.start() % MINUTES_OF_A_DAY;
            int counted = 1;
            for (int period = 0; period <= LAST_DAY; period++) {
                int first = rule.periodFirst(period, start);
                if (first > LAST_DAY) {
                    return;
                }
                gather(first, rule);
                for (int i = 0; i < fittingSize; i++) {
                    int minute = fitting[i] * MINUTES_OF_A_DAY + time;
                    if (minute <= draft.start() || !rule.staysAt(i, fittingSize)) {
                        continue;
                    }
                    if (counted >= rule.count() || minute > rule.until() || event.isFullBefore(minute)) {
                        return;
                    }
                    counted++;
                    offer(event, draft, minute);
                }
            }
        }

        private void gather(int first, Rule rule) {
            fittingSize = 0;
            date.moveTo(Math.max(first, 0));
            int last = Math.min(first + rule.periodLength(date) - 1, LAST_DAY);
            for (int day = Math.max(first, 0); day <= last && fittingSize < fitting.length; day++) {
                date.moveTo(day);
                if (rule.fits(date, start)) {
                    fitting[fittingSize] = day;
                    fittingSize++;
                }
            }
        }
    }

    /** The instances of a booked event. */
    private static final class Event {
        private final int[] starts = new int[MOST_INSTANCES];
        private int size;
        private int duration;

        void begin(int newDuration) {
            duration = newDuration;
            size = 0;
        }

        int size() {
            return size;
        }

        int start(int i) {
            return i >= 0 && i < size ? starts[i] : BAD;
        }

        int duration() {
            return duration;
        }

        boolean isFullBefore(int minute) {
            return size >= starts.length && starts[size - 1] < minute;
        }

        /** Puts a minute where its order asks, each once; beyond the limit the last ones fall off. */
        void insert(int minute) {
            int place = size;
            while (place > 0 && starts[place - 1] > minute) {
                place--;
            }
            if (place >= starts.length || place > 0 && starts[place - 1] == minute) {
                return;
            }
            int moved = Math.min(size, starts.length - 1) - place;
            System.arraycopy(starts, place, starts, place + 1, moved);
            starts[place] = minute;
            size = Math.min(size + 1, starts.length);
        }

        void moveToWorld(Zone zone) {
            for (int i = 0; i < size; i++) {
                starts[i] = zone.toWorld(starts[i]);
            }
        }
    }

    /** A person's events and, kept beside them, the stretches in which they make the person busy. */
    private static final class Person {
        private final Event[] booked = new Event[MOST_EVENTS];
        private int size;
        private final BusyTimes busyTimes = new BusyTimes();

        Person() {
            for (int i = 0; i < booked.length; i++) {
                booked[i] = new Event();
            }
        }

        int size() {
            return size;
        }

        boolean has(int event) {
            return event >= 0 && event < size;
        }

        int instanceCount(int event) {
            return has(event) ? booked[event].size() : BAD;
        }

        int instanceStart(int event, int i) {
            return has(event) ? booked[event].start(i) : BAD;
        }

        /** The event behind the last one, to be filled and then kept; null if there is no room for it. */
        Event spare() {
            return size < booked.length ? booked[size] : null;
        }

        void keepSpare() {
            if (size < booked.length) {
                busyTimes.addInstances(booked[size]);
                size++;
            }
        }

        int remove(int event) {
            if (has(event)) {
                // The event that goes is used again as a spare one.
                Event gone = booked[event];
                for (int i = event; i + 1 < size; i++) {
                    booked[i] = booked[i + 1];
                }
                size--;
                booked[size] = gone;
                recountBusyTimes();
            }
            return size;
        }

        private void recountBusyTimes() {
            busyTimes.clear();
            for (int i = 0; i < size; i++) {
                busyTimes.addInstances(booked[i]);
            }
        }

        BusyTimes busyTimes() {
            return busyTimes;
        }
    }

    /** Stretches of busy minutes in their order, none touching the next one. */
    private static final class BusyTimes {
        private final int[] firsts = new int[MOST_STRETCHES];
        private final int[] behinds = new int[MOST_STRETCHES];
        private int size;

        int size() {
            return size;
        }

        void clear() {
            size = 0;
        }

        int first(int i) {
            return i >= 0 && i < size ? firsts[i] : BAD;
        }

        int behind(int i) {
            return i >= 0 && i < size ? behinds[i] : BAD;
        }

        void addInstances(Event event) {
            for (int i = 0; i < event.size(); i++) {
                add(event.start(i), event.start(i) + event.duration());
            }
        }

        private void add(int first, int behind) {
            int from = 0;
            while (from < size && behinds[from] < first) {
                from++;
            }
            int to = from;
            while (to < size && firsts[to] <= behind) {
                to++;
            }
            int low = to > from ? Math.min(first, firsts[from]) : first;
            int high = to > from ? Math.max(behind, behinds[to - 1]) : behind;
            replace(from, to, low, high);
        }

        /** Puts one stretch in the place of those from one index to before another. */
        private void replace(int from, int to, int first, int behind) {
            int newSize = size - (to - from) + 1;
            if (newSize > firsts.length) {
                return;
            }
            System.arraycopy(firsts, to, firsts, from + 1, size - to);
            System.arraycopy(behinds, to, behinds, from + 1, size - to);
            firsts[from] = first;
            behinds[from] = behind;
            size = newSize;
        }

        boolean cover(int minute) {
            for (int i = 0; i < size; i++) {
                if (firsts[i] <= minute && minute < behinds[i]) {
                    return true;
                }
            }
            return false;
        }

        /** The least minute from one on that has so many free minutes from it on. */
        int freeFrom(int from, int length) {
            int minute = from;
            for (int i = 0; i < size; i++) {
                if (behinds[i] > minute && firsts[i] < minute + length) {
                    minute = behinds[i];
                }
            }
            return minute;
        }
    }
}
