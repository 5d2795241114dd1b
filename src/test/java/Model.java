import java.time.DayOfWeek;
import java.time.LocalDate;
import java.time.temporal.ChronoUnit;
import java.util.ArrayList;
import java.util.HashMap;
import java.util.List;
import java.util.Map;
import java.util.NoSuchElementException;
import java.util.TreeMap;
import java.util.TreeSet;
import java.util.regex.Matcher;
import java.util.regex.Pattern;

/** The document again, by other means: regular expressions, java.time, and looking at every day and minute. */
final class Model {
    private static final int BAD = -1000000;
    private static final LocalDate DAY_0 = LocalDate.of(2000, 1, 1);
    private static final int LAST_DAY = 7304;
    private static final String[] WEEKDAYS = {"MO", "TU", "WE", "TH", "FR", "SA", "SU"};

    private static final String TIME = "\\d{8}T\\d{4}";
    private static final String NUMBER = "[1-9]\\d*";
    private static final String SIGNED = "-?" + NUMBER;
    private static final String WEEKDAY = "(?:MO|TU|WE|TH|FR|SA|SU)";
    private static final Pattern EVENT = Pattern.compile(
            "DTSTART(?:;TZID=([012]))?:(" + TIME + ")\n"
            + "DURATION:PT(" + NUMBER + ")M\n"
            + "(?:RRULE:FREQ=(DAILY|WEEKLY|MONTHLY|YEARLY)((?:;[A-Z]+=[^;\n]*)*)\n)?"
            + "((?:(?:EXDATE|RDATE):" + TIME + "(?:," + TIME + "){0,5}\n){0,3})");

    private final List<TreeMap<Integer, Integer>> zones = List.of(new TreeMap<>(), new TreeMap<>(), new TreeMap<>());
    private final List<List<int[]>> starts = new ArrayList<>();
    private final List<List<Integer>> lengths = new ArrayList<>();
    private String text = "";

    Model() {
        for (int p = 0; p < 4; p++) {
            starts.add(new ArrayList<>());
            lengths.add(new ArrayList<>());
        }
    }

    private static void refuseUnless(boolean good) {
        if (!good) {
            throw new IllegalArgumentException();
        }
    }

    private static boolean in(long value, long least, long most) {
        return value >= least && value <= most;
    }

    int change(int zone, int minute, int offset) {
        refuseUnless(in(zone, 0, 2) && in(minute, 0, 10519199) && in(offset, -840, 840));
        TreeMap<Integer, Integer> changes = zones.get(zone);
        refuseUnless(changes.isEmpty() || minute > changes.lastKey());
        if (changes.size() == 8) {
            throw new IllegalStateException();
        }
        changes.put(minute, offset);
        return changes.size();
    }

    int type(long characters, int n) {
        if (!in(n, 1, 8) || text.length() + n > 240) {
            return BAD;
        }
        String more = "";
        for (int i = 0; i < n; i++) {
            int c = (int) (characters >> 8 * i & 255);
            if (c != 10 && !in(c, 32, 126)) {
                return BAD;
            }
            more = (char) c + more;
        }
        text += more;
        return text.length();
    }

    int wipe() {
        int had = text.length();
        text = "";
        return had;
    }

    int book(int person) {
        refuseUnless(in(person, 0, 3));
        Matcher event = EVENT.matcher(text.replace("\n ", ""));
        refuseUnless(event.matches());
        int start = time(event.group(2));
        int length = number(event.group(3), 1, 1440);
        TreeSet<Integer> added = new TreeSet<>();
        TreeSet<Integer> leftOut = new TreeSet<>();
        for (String line : event.group(6).split("\n")) {
            for (String time : line.isEmpty() ? new String[0] : line.split(":")[1].split(",")) {
                (line.startsWith("RDATE") ? added : leftOut).add(time(time));
            }
        }
        if (event.group(4) != null) {
            added.addAll(ruleMinutes(start, event.group(4), parts(event.group(4), event.group(5))));
        }
        added.add(start);
        added.removeAll(leftOut);
        if (starts.get(person).size() == 4) {
            throw new IllegalStateException();
        }
        int zone = event.group(1) == null ? -1 : Integer.parseInt(event.group(1));
        int[] row = added.stream().limit(40).mapToInt(m -> zone < 0 ? m : world(zone, m)).toArray();
        starts.get(person).add(row);
        lengths.get(person).add(length);
        text = "";
        return row.length;
    }

    private static int number(String written, int least, int most) {
        refuseUnless(written.length() < 9);
        int value = Integer.parseInt(written);
        refuseUnless(in(value, least, most));
        return value;
    }

    private static int time(String written) {
        int year = Integer.parseInt(written.substring(0, 4));
        int month = Integer.parseInt(written.substring(4, 6));
        int day = Integer.parseInt(written.substring(6, 8));
        int hour = Integer.parseInt(written.substring(9, 11));
        int minute = Integer.parseInt(written.substring(11, 13));
        refuseUnless(in(year, 2000, 2019) && in(hour, 0, 23) && in(minute, 0, 59));
        try {
            return (int) ChronoUnit.DAYS.between(DAY_0, LocalDate.of(year, month, day)) * 1440 + hour * 60 + minute;
        } catch (java.time.DateTimeException e) {
            throw new IllegalArgumentException(e);
        }
    }

    /** The parts of a rule by their names, all of them looked at. */
    private static Map<String, String> parts(String frequency, String written) {
        Map<String, String> parts = new HashMap<>();
        for (String part : written.split(";")) {
            if (!part.isEmpty()) {
                String name = part.substring(0, part.indexOf('='));
                refuseUnless(parts.put(name, part.substring(part.indexOf('=') + 1)) == null);
            }
        }
        parts.forEach(Model::testPart);
        refuseUnless(!(parts.containsKey("COUNT") && parts.containsKey("UNTIL")));
        refuseUnless(!(frequency.equals("WEEKLY") && parts.containsKey("BYMONTHDAY")));
        boolean numbered = parts.getOrDefault("BYDAY", "").matches(".*\\d.*");
        refuseUnless(!numbered || frequency.equals("MONTHLY") || frequency.equals("YEARLY"));
        refuseUnless(!parts.containsKey("BYSETPOS")
                || parts.keySet().stream().filter(name -> name.startsWith("BY")).count() > 1);
        return parts;
    }

    private static void testPart(String name, String value) {
        switch (name) {
            case "INTERVAL", "COUNT" -> {
                refuseUnless(value.matches(NUMBER));
                number(value, 1, 99);
            }
            case "UNTIL" -> {
                refuseUnless(value.matches(TIME));
                time(value);
            }
            case "WKST" -> refuseUnless(value.matches(WEEKDAY));
            case "BYMONTH" -> testList(value, NUMBER, 12);
            case "BYMONTHDAY" -> testList(value, SIGNED, 31);
            case "BYSETPOS" -> testList(value, SIGNED, 99);
            case "BYDAY" -> {
                testList(value, "(?:" + SIGNED + ")?" + WEEKDAY, 53);
            }
            default -> refuseUnless(false);
        }
    }

    private static void testList(String value, String form, int most) {
        refuseUnless(value.matches(form + "(?:," + form + "){0,7}"));
        for (String item : value.split(",")) {
            String digits = item.replaceAll("\\D", "");
            if (!digits.isEmpty()) {
                number(digits, 1, most);
            }
        }
    }

    private static List<Integer> ruleMinutes(int start, String frequency, Map<String, String> parts) {
        LocalDate first = DAY_0.plusDays(start / 1440);
        int until = parts.containsKey("UNTIL") ? time(parts.get("UNTIL")) : Integer.MAX_VALUE;
        int count = Integer.parseInt(parts.getOrDefault("COUNT", "9999"));
        int interval = Integer.parseInt(parts.getOrDefault("INTERVAL", "1"));
        TreeMap<Long, List<LocalDate>> periods = new TreeMap<>();
        for (int day = 0; day <= LAST_DAY; day++) {
            LocalDate date = DAY_0.plusDays(day);
            long number = periodOf(date, frequency, parts) - periodOf(first, frequency, parts);
            if (number >= 0 && number % interval == 0 && fits(date, first, frequency, parts)) {
                periods.computeIfAbsent(number, key -> new ArrayList<>()).add(date);
            }
        }
        List<Integer> minutes = new ArrayList<>();
        for (List<LocalDate> period : periods.values()) {
            for (LocalDate date : period) {
                int minute = (int) ChronoUnit.DAYS.between(DAY_0, date) * 1440 + start % 1440;
                boolean stays = isAtPosition(period, date, parts.get("BYSETPOS"));
                if (stays && minute > start && minute <= until && minutes.size() + 1 < count) {
                    minutes.add(minute);
                }
            }
        }
        return minutes;
    }

    private static long periodOf(LocalDate date, String frequency, Map<String, String> parts) {
        switch (frequency) {
            case "DAILY":
                return date.toEpochDay();
            case "WEEKLY":
                DayOfWeek first = DayOfWeek.of(List.of(WEEKDAYS).indexOf(parts.getOrDefault("WKST", "MO")) + 1);
                LocalDate begin = date.with(java.time.temporal.TemporalAdjusters.previousOrSame(first));
                return Math.floorDiv(begin.toEpochDay(), 7L);
            case "MONTHLY":
                return date.getYear() * 12L + date.getMonthValue();
            default:
                return date.getYear();
        }
    }

    private static boolean fits(LocalDate date, LocalDate first, String frequency, Map<String, String> parts) {
        String months = parts.get("BYMONTH");
        String monthDays = parts.get("BYMONTHDAY");
        String weekdays = parts.get("BYDAY");
        boolean good = months == null || List.of(months.split(",")).contains("" + date.getMonthValue());
        if (monthDays != null) {
            List<String> asked = List.of(monthDays.split(","));
            good &= asked.contains("" + date.getDayOfMonth())
                    || asked.contains("" + (date.getDayOfMonth() - date.lengthOfMonth() - 1));
        }
        if (weekdays != null) {
            boolean one = false;
            for (String asked : weekdays.split(",")) {
                one |= isWeekday(date, asked, frequency.equals("MONTHLY") || months != null);
            }
            good &= one;
        }
        if (frequency.equals("WEEKLY") && weekdays == null) {
            good &= date.getDayOfWeek() == first.getDayOfWeek();
        }
        if (frequency.matches("MONTHLY|YEARLY") && monthDays == null && weekdays == null) {
            good &= date.getDayOfMonth() == first.getDayOfMonth();
            good &= frequency.equals("MONTHLY") || months != null || date.getMonth() == first.getMonth();
        }
        return good;
    }

    private static boolean isWeekday(LocalDate date, String asked, boolean inMonth) {
        if (!asked.endsWith(WEEKDAYS[date.getDayOfWeek().getValue() - 1])) {
            return false;
        }
        if (asked.length() == 2) {
            return true;
        }
        int number = Integer.parseInt(asked.substring(0, asked.length() - 2));
        int step = number > 0 ? -7 : 7;
        int seen = 0;
        LocalDate at = date;
        while (at.getYear() == date.getYear() && (!inMonth || at.getMonth() == date.getMonth())) {
            seen++;
            at = at.plusDays(step);
        }
        return seen == Math.abs(number);
    }

    private static boolean isAtPosition(List<LocalDate> period, LocalDate date, String positions) {
        if (positions == null) {
            return true;
        }
        for (String position : positions.split(",")) {
            int number = Integer.parseInt(position);
            int index = number > 0 ? number - 1 : period.size() + number;
            if (in(index, 0, period.size() - 1) && period.get(index).equals(date)) {
                return true;
            }
        }
        return false;
    }

    int cancel(int person, int event) {
        refuseUnless(isEvent(person, event));
        starts.get(person).remove(event);
        lengths.get(person).remove(event);
        return starts.get(person).size();
    }

    private boolean isEvent(int person, int event) {
        return in(person, 0, 3) && in(event, 0, starts.get(person).size() - 1);
    }

    int events(int person) {
        return in(person, 0, 3) ? starts.get(person).size() : BAD;
    }

    int instances(int person, int event) {
        return isEvent(person, event) ? starts.get(person).get(event).length : BAD;
    }

    int instance(int person, int event, int i) {
        return isEvent(person, event) && in(i, 0, starts.get(person).get(event).length - 1)
                ? starts.get(person).get(event)[i] : BAD;
    }

    int world(int zone, int minute) {
        if (!in(zone, 0, 2) || !in(minute, 0, 10519199)) {
            return BAD;
        }
        TreeMap<Integer, Integer> changes = zones.get(zone);
        for (int w = minute - 840; w <= minute + 840; w++) {
            if (w >= 0 && w + offsetAt(changes, w) == minute) {
                return w;
            }
        }
        for (int w : changes.keySet()) {
            int old = offsetAt(changes, w - 1);
            if (w + old <= minute && w + changes.get(w) > minute) {
                return minute - old;
            }
        }
        throw new AssertionError("the document tells nothing");
    }

    private static int offsetAt(TreeMap<Integer, Integer> changes, int minute) {
        Map.Entry<Integer, Integer> latest = changes.floorEntry(minute);
        return latest == null ? 0 : latest.getValue();
    }

    boolean busy(int person, int minute) {
        return in(person, 0, 3) && busyMinutes(person).get(minute);
    }

    private java.util.BitSet busyMinutes(int person) {
        java.util.BitSet minutes = new java.util.BitSet() {
            private static final long serialVersionUID = 1L;

            @Override
            public boolean get(int minute) {
                return minute >= 0 && super.get(minute);
            }
        };
        for (int e = 0; e < starts.get(person).size(); e++) {
            for (int start : starts.get(person).get(e)) {
                minutes.set(start, start + lengths.get(person).get(e));
            }
        }
        return minutes;
    }

    int stretches(int person) {
        return in(person, 0, 3) ? stretchesOf(person).size() : BAD;
    }

    private List<int[]> stretchesOf(int person) {
        java.util.BitSet minutes = busyMinutes(person);
        List<int[]> found = new ArrayList<>();
        for (int first = minutes.nextSetBit(0); first >= 0; first = minutes.nextSetBit(found.get(found.size() - 1)[1])) {
            found.add(new int[] {first, minutes.nextClearBit(first)});
        }
        return found;
    }

    int stretch(int person, int i, int end) {
        return in(person, 0, 3) && in(end, 0, 1) && in(i, 0, stretchesOf(person).size() - 1)
                ? stretchesOf(person).get(i)[end] : BAD;
    }

    int slot(int people, int from, int to, int length) {
        refuseUnless(in(people, 0, 15) && in(from, 0, 10519199) && in(to, 0, 10519199) && in(length, 1, 1440));
        java.util.BitSet minutes = new java.util.BitSet();
        for (int p = 0; p < 4; p++) {
            if ((people & 1 << p) != 0) {
                minutes.or(busyMinutes(p));
            }
        }
        for (int s = minutes.nextClearBit(from); s <= to - length; s = minutes.nextClearBit(s)) {
            int busy = minutes.nextSetBit(s);
            if (busy < 0 || busy >= s + length) {
                return s;
            }
            s = busy;
        }
        throw new NoSuchElementException();
    }
}
