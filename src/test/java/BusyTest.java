/** Promises 11 (busy), 12 (stretches) and 13 (stretch). */
final class BusyTest {
    public static void main(String[] args) {
        busyFromFirstToLastMinute();
        touchingStretchesAreOne();
        stretchesOfSeveralEvents();
        longStretchSwallowsOthers();
        wrongArguments();
        behindTheLastMinute();
        mostStretches();
        Check.finish();
    }

    private static void book(RecurrenceDesk desk, int person, String time, int length) {
        Check.book(desk, person, "DTSTART:" + time, "DURATION:PT" + length + "M");
    }

    private static void stretch(RecurrenceDesk desk, int person, int i, int first, int behind) {
        Check.equal("stretch(" + person + ", " + i + ", 0)", first, () -> desk.stretch(person, i, 0));
        Check.equal("stretch(" + person + ", " + i + ", 1)", behind, () -> desk.stretch(person, i, 1));
    }

    private static void busyFromFirstToLastMinute() {
        RecurrenceDesk desk = new RecurrenceDesk();
        book(desk, 1, "20000101T0010", 1);
        book(desk, 1, "20000102T0000", 1440);
        for (int m : new int[] {10, 1440, 2879}) {
            Check.equal("busy(1, " + m + ")", true, () -> desk.busy(1, m));
            Check.equal("busy(0, " + m + ")", false, () -> desk.busy(0, m));
        }
        for (int m : new int[] {9, 11, 1439, 2880, 0, -1, Integer.MIN_VALUE, Integer.MAX_VALUE}) {
            Check.equal("busy(1, " + m + ")", false, () -> desk.busy(1, m));
        }
    }

    private static void touchingStretchesAreOne() {
        RecurrenceDesk desk = new RecurrenceDesk();
        Check.book(desk, 0, "DTSTART:20000101T0000", "DURATION:PT1440M", "RRULE:FREQ=DAILY;COUNT=5");
        Check.equal("stretches(0)", 1, () -> desk.stretches(0));
        stretch(desk, 0, 0, 0, 7200);
        Check.book(desk, 1, "DTSTART:20000101T0000", "DURATION:PT1439M", "RRULE:FREQ=DAILY;COUNT=5");
        Check.equal("stretches(1)", 5, () -> desk.stretches(1));
        stretch(desk, 1, 4, 5760, 7199);
        book(desk, 1, "20000102T2359", 1);
        Check.equal("stretches(1)", 4, () -> desk.stretches(1));
        stretch(desk, 1, 1, 1440, 4319);
        stretch(desk, 1, 2, 4320, 5759);
    }

    private static void stretchesOfSeveralEvents() {
        RecurrenceDesk desk = new RecurrenceDesk();
        book(desk, 2, "20000101T0500", 60);
        book(desk, 2, "20000101T0100", 60);
        book(desk, 2, "20000101T0300", 60);
        Check.equal("stretches(2)", 3, () -> desk.stretches(2));
        stretch(desk, 2, 0, 60, 120);
        stretch(desk, 2, 1, 180, 240);
        stretch(desk, 2, 2, 300, 360);
        book(desk, 2, "20000101T0130", 91);
        Check.equal("stretches(2)", 2, () -> desk.stretches(2));
        stretch(desk, 2, 0, 60, 240);
        stretch(desk, 2, 1, 300, 360);
        desk.cancel(2, 1);
        stretch(desk, 2, 0, 90, 240);
    }

    private static void longStretchSwallowsOthers() {
        RecurrenceDesk desk = new RecurrenceDesk();
        Check.book(desk, 0, "DTSTART:20000101T0100", "DURATION:PT5M",
                "RDATE:20000101T0110,20000101T0120,20000101T0130,20000101T0200");
        book(desk, 0, "20000101T0050", 50);
        Check.equal("stretches(0)", 2, () -> desk.stretches(0));
        stretch(desk, 0, 0, 50, 100);
        stretch(desk, 0, 1, 120, 125);
        book(desk, 0, "20000101T0122", 1);
        Check.equal("stretches(0)", 2, () -> desk.stretches(0));
        book(desk, 0, "20000101T0101", 2);
        stretch(desk, 0, 0, 50, 100);
    }

    private static void wrongArguments() {
        RecurrenceDesk desk = new RecurrenceDesk();
        book(desk, 0, "20000101T0000", 10);
        for (int wrong : new int[] {-1, 4, Integer.MIN_VALUE, Integer.MAX_VALUE}) {
            Check.equal("busy of no person", false, () -> desk.busy(wrong, 0));
            Check.equal("stretches of no person", Check.BAD, () -> desk.stretches(wrong));
            Check.equal("stretch of no person", Check.BAD, () -> desk.stretch(wrong, 0, 0));
            Check.equal("no stretch", Check.BAD, () -> desk.stretch(0, wrong, 0));
            Check.equal("no stretch", Check.BAD, () -> desk.stretch(0, wrong, 1));
            Check.equal("no end", Check.BAD, () -> desk.stretch(0, 0, wrong));
        }
        Check.equal("no end", Check.BAD, () -> desk.stretch(0, 0, 2));
        Check.equal("no stretch", Check.BAD, () -> desk.stretch(0, 1, 0));
        Check.equal("no stretch", Check.BAD, () -> desk.stretch(1, 0, 0));
        stretch(desk, 0, 0, 0, 10);
    }

    /** All n minutes of an instance count, also those behind the last day. */
    private static void behindTheLastMinute() {
        RecurrenceDesk desk = new RecurrenceDesk();
        book(desk, 3, "20191231T2359", 1440);
        stretch(desk, 3, 0, Check.LAST_MINUTE, Check.LAST_MINUTE + 1440);
        Check.equal("busy at the last minute", true, () -> desk.busy(3, Check.LAST_MINUTE));
        Check.equal("busy behind all", false, () -> desk.busy(3, Check.LAST_MINUTE + 1440));
    }

    private static void mostStretches() {
        RecurrenceDesk desk = new RecurrenceDesk();
        for (int i = 3; i >= 0; i--) {
            Check.book(desk, 0, "DTSTART:20000101T0" + i + "00", "DURATION:PT59M", "RRULE:FREQ=DAILY");
        }
        Check.equal("stretches(0)", 160, () -> desk.stretches(0));
        for (int i = 0; i < 160; i++) {
            int first = i / 4 * 1440 + i % 4 * 60;
            stretch(desk, 0, i, first, first + 59);
        }
        Check.equal("no stretch", Check.BAD, () -> desk.stretch(0, 160, 0));
    }
}
