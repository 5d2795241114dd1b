import java.util.ArrayList;
import java.util.List;

/** Long runs of calls, each answered by the program and by the model; the runs are the same every time. */
final class ModelTest {
    private static final int MOST_CALLS = 512;
    /** A booking with the questions behind it takes no more calls than this. */
    private static final int CALLS_OF_A_STEP = 180;
    private static final String[] WEEKDAYS = {"MO", "TU", "WE", "TH", "FR", "SA", "SU"};
    private static final String[] FREQUENCIES = {"DAILY", "WEEKLY", "MONTHLY", "YEARLY"};

    private long state;
    private RecurrenceDesk desk;
    private Model model;
    private int run;
    private int calls;
    private boolean early;
    private int bookings;
    private int good;

    public static void main(String[] args) {
        int runs = args.length > 0 ? Integer.parseInt(args[0]) : 200;
        int first = args.length > 1 ? Integer.parseInt(args[1]) : 1;
        ModelTest test = new ModelTest();
        for (int i = first; i < first + runs; i++) {
            test.run(i);
        }
        System.out.println(test.bookings + " bookings, " + test.good + " of them good");
        Check.finish();
    }

    private void run(int number) {
        run = number;
        state = number * 0x9E3779B97F4A7C15L;
        desk = new RecurrenceDesk();
        model = new Model();
        calls = 0;
        // Events close to one another and to the changes make the rarer cases.
        early = number % 3 != 0;
        while (calls < MOST_CALLS - CALLS_OF_A_STEP) {
            int kind = below(10);
            if (kind < 3) {
                changeSome();
            } else if (kind < 8) {
                bookSome();
            } else {
                cancelSome();
            }
            askSome();
        }
        if (calls > MOST_CALLS) {
            throw new AssertionError("a run of " + calls + " calls");
        }
    }

    private int below(int n) {
        state = state * 6364136223846793005L + 1442695040888963407L;
        return (int) ((state >>> 33) % n);
    }

    private boolean oneIn(int n) {
        return below(n) == 0;
    }

    private void same(String call, Check.Call program, Check.Call due) {
        calls++;
        Check.equal("run " + run + ", call " + calls + ": " + call, Check.answerOf(due), program);
    }

    private int someMinute() {
        switch (below(8)) {
            case 0:
                return new int[] {0, 1, Check.LAST_MINUTE, Check.LAST_MINUTE - 1, -1, Check.LAST_MINUTE + 1,
                    Integer.MIN_VALUE, Integer.MAX_VALUE}[below(8)];
            case 1:
                return below(Check.LAST_MINUTE + 1);
            case 2:
                return Check.LAST_MINUTE - below(3000);
            default:
                return below(6000);
        }
    }

    private int person() {
        return oneIn(30) ? 4 - below(2) * 5 : below(early ? 2 : 4);
    }

    private void changeSome() {
        int zone = oneIn(20) ? 3 - below(2) * 4 : below(3);
        int minute = someMinute();
        int offset = oneIn(20) ? 841 - below(2) * 1682 : below(1681) - 840;
        same("change(" + zone + ", " + minute + ", " + offset + ")",
                () -> desk.change(zone, minute, offset), () -> model.change(zone, minute, offset));
    }

    private void bookSome() {
        String text = spoiled(folded(event()));
        for (int i = 0; i < text.length();) {
            int n = Math.min(oneIn(5) ? 1 + below(8) : 8, text.length() - i);
            long characters = Check.packed(text.substring(i, i + n)) | (n < 8 ? (long) below(256) << 8 * n : 0);
            same("type", () -> desk.type(characters, n), () -> model.type(characters, n));
            i += n;
        }
        int person = person();
        int before = model.events(person);
        same("book(" + person + ") of " + text, () -> desk.book(person), () -> model.book(person));
        bookings++;
        good += model.events(person) > before ? 1 : 0;
        int event = model.events(person) - 1;
        same("all instances of " + text, () -> rowOf(person, event, true), () -> rowOf(person, event, false));
        if (oneIn(2) || model.events(person) == Check.BAD) {
            same("wipe()", () -> desk.wipe(), () -> model.wipe());
        }
    }

    private List<Integer> rowOf(int person, int event, boolean ofDesk) {
        List<Integer> row = new ArrayList<>();
        int size = Math.max(model.instances(person, event), 0);
        for (int i = 0; i <= size; i++) {
            row.add(ofDesk ? desk.instance(person, event, i) : model.instance(person, event, i));
        }
        calls += ofDesk ? size : 0;
        return row;
    }

    private void cancelSome() {
        int person = person();
        int event = below(5) - (oneIn(10) ? 1 : 0);
        same("cancel(" + person + ", " + event + ")", () -> desk.cancel(person, event),
                () -> model.cancel(person, event));
    }

    private void askSome() {
        int person = person();
        int event = below(5);
        int zone = oneIn(20) ? 3 - below(2) * 4 : below(3);
        int minute = someMinute();
        same("world(" + zone + ", " + minute + ")", () -> desk.world(zone, minute), () -> model.world(zone, minute));
        same("events(" + person + ")", () -> desk.events(person), () -> model.events(person));
        same("instances", () -> desk.instances(person, event), () -> model.instances(person, event));
        same("stretches(" + person + ")", () -> desk.stretches(person), () -> model.stretches(person));
        int i = below(Math.max(model.stretches(person), 0) + 1);
        int end = oneIn(10) ? 2 - below(2) * 3 : below(2);
        same("stretch(" + person + ", " + i + ", " + end + ")", () -> desk.stretch(person, i, end),
                () -> model.stretch(person, i, end));
        int near = oneIn(4) ? minute : model.stretch(person, i, below(2)) + below(3) - 1;
        same("busy(" + person + ", " + near + ")", () -> desk.busy(person, near), () -> model.busy(person, near));
        askSlot(near, minute);
    }

    private void askSlot(int near, int minute) {
        int people = oneIn(30) ? 16 - below(2) * 17 : below(16);
        int from = oneIn(3) ? minute : near - below(2000);
        int length = oneIn(20) ? 1441 * below(2) : 1 + below(oneIn(2) ? 1440 : 60);
        int to = oneIn(3) ? Check.LAST_MINUTE : from + length + below(4000) - 100;
        same("slot(" + people + ", " + from + ", " + to + ", " + length + ")",
                () -> desk.slot(people, from, to, length), () -> model.slot(people, from, to, length));
    }

    private String event() {
        String start = time();
        StringBuilder text = new StringBuilder("DTSTART");
        text.append(oneIn(2) ? "" : ";TZID=" + (oneIn(40) ? 3 : below(3))).append(':').append(start).append('\n');
        int length = oneIn(40) ? 1441 * below(2) : 1 + below(oneIn(3) ? 1440 : 100);
        text.append("DURATION:PT").append(length).append("M\n");
        if (!oneIn(5)) {
            text.append("RRULE:").append(rule()).append('\n');
        }
        int lines = oneIn(2) ? 0 : oneIn(20) ? 4 : 1 + below(3);
        for (int i = 0; i < lines; i++) {
            text.append(oneIn(2) ? "EXDATE:" : "RDATE:").append(times(start)).append('\n');
        }
        return text.toString();
    }

    private String time() {
        int year = early ? 2000 : oneIn(5) ? 2019 : 2000 + below(20);
        int month = early ? 1 : oneIn(3) ? 12 : 1 + below(12);
        int day = early ? 1 + below(5) : oneIn(100) ? 31 : 1 + below(28 + below(4) % 3);
        int hour = oneIn(200) ? 24 : below(24);
        int minute = oneIn(200) ? 60 : oneIn(2) ? 0 : below(60);
        return String.format("%04d%02d%02dT%02d%02d", year, month, day, hour, minute);
    }

    /** Some of them have the start's time of day, so that they meet the rule's minutes. */
    private String times(String start) {
        StringBuilder times = new StringBuilder();
        int n = oneIn(20) ? 7 : 1 + below(oneIn(3) ? 6 : 2);
        for (int i = 0; i < n; i++) {
            String time = oneIn(8) ? start : time();
            times.append(i == 0 ? "" : ",").append(oneIn(3) ? time : time.substring(0, 9) + start.substring(9));
        }
        return times.toString();
    }

    private String rule() {
        String frequency = FREQUENCIES[below(4)];
        List<String> parts = new ArrayList<>();
        boolean numbered = frequency.matches("MONTHLY|YEARLY") || oneIn(30);
        if (oneIn(3)) {
            parts.add("INTERVAL=" + (oneIn(20) ? below(2) * 100 : 1 + below(oneIn(3) ? 99 : 4)));
        }
        if (oneIn(3)) {
            parts.add("COUNT=" + (oneIn(20) ? below(2) * 100 : 1 + below(oneIn(2) ? 99 : 10)));
        }
        if (oneIn(parts.size() > 0 ? 30 : 4)) {
            parts.add("UNTIL=" + (oneIn(2) ? time() : "20" + (10 + below(10)) + time().substring(4)));
        }
        boolean by = false;
        if (oneIn(4)) {
            parts.add("BYMONTH=" + list(12, false));
            by = true;
        }
        if (oneIn(frequency.equals("WEEKLY") ? 30 : 4)) {
            parts.add("BYMONTHDAY=" + list(31, true));
            by = true;
        }
        if (oneIn(2)) {
            parts.add("BYDAY=" + weekdays(numbered, frequency.equals("YEARLY") ? 53 : 6));
            by = true;
        }
        if (oneIn(by ? 3 : 30)) {
            parts.add("BYSETPOS=" + list(oneIn(3) ? 99 : 5, true));
        }
        if (oneIn(4)) {
            parts.add("WKST=" + WEEKDAYS[below(7)]);
        }
        StringBuilder rule = new StringBuilder("FREQ=").append(frequency);
        while (!parts.isEmpty()) {
            rule.append(';').append(parts.remove(below(parts.size())));
        }
        return rule.toString();
    }

    private String list(int most, boolean signed) {
        StringBuilder list = new StringBuilder();
        int n = oneIn(40) ? 9 : 1 + below(oneIn(4) ? 8 : 3);
        for (int i = 0; i < n; i++) {
            int value = oneIn(100) ? (most + 1) * below(2) : 1 + below(most);
            list.append(i == 0 ? "" : ",").append(signed && oneIn(3) ? -value : value);
        }
        return list.toString();
    }

    private String weekdays(boolean numbered, int most) {
        StringBuilder list = new StringBuilder();
        int n = oneIn(40) ? 9 : 1 + below(oneIn(4) ? 8 : 3);
        for (int i = 0; i < n; i++) {
            int number = numbered && oneIn(2) ? 1 + below(oneIn(2) ? most : 5) : 0;
            list.append(i == 0 ? "" : ",").append(number == 0 ? "" : "" + (oneIn(2) ? -number : number));
            list.append(WEEKDAYS[below(7)]);
        }
        return list.toString();
    }

    private String folded(String text) {
        StringBuilder folded = new StringBuilder(text);
        for (int i = oneIn(3) ? 1 + below(4) : 0; i > 0; i--) {
            folded.insert(below(folded.length() + 1), "\n ");
        }
        return folded.toString();
    }

    /** Now and then a character goes, comes or is another one. */
    private String spoiled(String text) {
        if (!oneIn(6)) {
            return text;
        }
        String characters = "0123456789-,;:=\n TMOABYDPES";
        StringBuilder spoiled = new StringBuilder(text);
        int at = below(spoiled.length());
        char other = characters.charAt(below(characters.length()));
        switch (below(3)) {
            case 0:
                spoiled.deleteCharAt(at);
                break;
            case 1:
                spoiled.insert(at, other);
                break;
            default:
                spoiled.setCharAt(at, other);
        }
        return spoiled.toString();
    }
}
