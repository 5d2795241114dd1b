import java.util.NoSuchElementException;

/** Promise 14 (slot). */
final class SlotTest {
    public static void main(String[] args) {
        wrongArguments();
        bounds();
        onlyThosePeople();
        peopleTakeTurns();
        shortGapsAreTooShort();
        neverFree();
        Check.finish();
    }

    private static void slot(RecurrenceDesk desk, int people, int from, int to, int length, Object want) {
        Check.equal("slot(" + people + ", " + from + ", " + to + ", " + length + ")", want,
                () -> desk.slot(people, from, to, length));
    }

    private static void wrongArguments() {
        RecurrenceDesk desk = new RecurrenceDesk();
        String refused = "throws.IllegalArgumentException";
        int last = Check.LAST_MINUTE;
        slot(desk, -1, 0, 10, 1, refused);
        slot(desk, 16, 0, 10, 1, refused);
        slot(desk, Integer.MIN_VALUE, 0, 10, 1, refused);
        slot(desk, 15, -1, 10, 1, refused);
        slot(desk, 15, last + 1, 10, 1, refused);
        slot(desk, 15, 0, -1, 1, refused);
        slot(desk, 15, 0, last + 1, 1, refused);
        slot(desk, 15, 0, 10, 0, refused);
        slot(desk, 15, 0, 10, -1, refused);
        slot(desk, 15, 0, 10, 1441, refused);
        slot(desk, 15, 0, Integer.MAX_VALUE, 1, refused);
        slot(desk, 15, 10, 0, 1441, refused);
        slot(desk, 15, 0, last, 1440, 0);
    }

    private static void bounds() {
        RecurrenceDesk desk = new RecurrenceDesk();
        String none = "throws.NoSuchElementException";
        int last = Check.LAST_MINUTE;
        slot(desk, 0, 5, 15, 10, 5);
        slot(desk, 0, 5, 14, 10, none);
        slot(desk, 15, 6, 15, 10, none);
        slot(desk, 15, 5, 5, 1, none);
        slot(desk, 15, last, 0, 1, none);
        slot(desk, 15, last - 1440, last, 1440, last - 1440);
        slot(desk, 15, last, last, 1, none);
        Check.book(desk, 0, "DTSTART:20000101T0010", "DURATION:PT10M");
        slot(desk, 1, 0, 100, 10, 0);
        slot(desk, 1, 1, 100, 10, 20);
        slot(desk, 1, 0, 100, 11, 20);
        slot(desk, 1, 19, 21, 1, 20);
        slot(desk, 1, 19, 20, 1, none);
        slot(desk, 1, 1, 29, 10, none);
        slot(desk, 1, 1, 30, 10, 20);
        slot(desk, 1, 9, 20, 1, 9);
        Check.refused("no slot", NoSuchElementException.class, () -> desk.slot(1, 10, 20, 1));
    }

    private static void onlyThosePeople() {
        RecurrenceDesk desk = new RecurrenceDesk();
        for (int p = 0; p < 4; p++) {
            Check.book(desk, p, "DTSTART:20000101T0" + p + "00", "DURATION:PT60M");
        }
        for (int people = 0; people < 16; people++) {
            int want = 0;
            while ((people >> want & 1) == 1) {
                want++;
            }
            slot(desk, people, 0, 1000, 60, want * 60);
        }
    }

    /** Sixteen events fill forty days, so that each one's end is another one's beginning. */
    private static void peopleTakeTurns() {
        RecurrenceDesk desk = new RecurrenceDesk();
        for (int i = 0; i < 16; i++) {
            int minute = 90 * i;
            Check.book(desk, 3 - i % 4, String.format("DTSTART:20000101T%02d%02d", minute / 60, minute % 60),
                    "DURATION:PT90M", "RRULE:FREQ=DAILY");
        }
        int end = 40 * 1440;
        slot(desk, 15, 0, Check.LAST_MINUTE, 1, end);
        slot(desk, 15, 0, end + 1439, 1440, "throws.NoSuchElementException");
        slot(desk, 15, 0, end + 1440, 1440, end);
        slot(desk, 7, 0, Check.LAST_MINUTE, 90, 0);
        slot(desk, 7, 1, Check.LAST_MINUTE, 90, 360);
        slot(desk, 7, 0, Check.LAST_MINUTE, 91, end);
        slot(desk, 14, 0, Check.LAST_MINUTE, 90, 270);
    }

    private static void shortGapsAreTooShort() {
        RecurrenceDesk desk = new RecurrenceDesk();
        Check.book(desk, 0, "DTSTART:20000101T0100", "DURATION:PT50M",
                "RDATE:20000101T0200,20000101T0300,20000101T0401");
        slot(desk, 1, 50, 1000, 10, 50);
        slot(desk, 1, 51, 1000, 10, 110);
        slot(desk, 1, 51, 1000, 11, 230);
        slot(desk, 1, 51, 1000, 12, 291);
    }

    private static void neverFree() {
        RecurrenceDesk desk = new RecurrenceDesk();
        Check.book(desk, 2, "DTSTART:20191201T0000", "DURATION:PT1440M", "RRULE:FREQ=DAILY");
        int december = Check.minute("20191201T0000");
        slot(desk, 4, december, Check.LAST_MINUTE, 1, "throws.NoSuchElementException");
        slot(desk, 4, december - 1, Check.LAST_MINUTE, 1, december - 1);
        slot(desk, 4, december - 1, Check.LAST_MINUTE, 2, "throws.NoSuchElementException");
        slot(desk, 11, december, Check.LAST_MINUTE, 1440, december);
    }
}
