import java.time.YearMonth;

/** The boundaries of days, minutes and zones that the document's terms name, a test for each sentence. */
final class BoundsOfTermsTest {
    private static final int LAST = Check.LAST_MINUTE;

    public static void main(String[] args) {
        firstAndLastDay();
        firstDayIsASaturday();
        monthsAndLeapYears();
        minutesOfADay();
        noChange();
        eightChanges();
        atAChange();
        leastMinuteOfTheWorld();
        leftOutMinutes();
        firstChangeThatLeavesOut();
        endsOfTheWorld();
        people();
        minutesOfAnInstance();
        fiveHundredAndTwelveCalls();
        Check.finish();
    }

    private static void starts(String time, int want) {
        Check.equal(time, want, () -> {
            RecurrenceDesk desk = new RecurrenceDesk();
            Check.book(desk, 0, "DTSTART:" + time, "DURATION:PT1M");
            return desk.instance(0, 0, 0);
        });
    }

    private static void noTime(String time) {
        Check.noEvent(Check.text("DTSTART:" + time, "DURATION:PT1M"));
    }

    /** Day 0 is the first of January 2000; the last one is 7304, the 31st of December 2019. */
    private static void firstAndLastDay() {
        starts("20000101T0000", 0);
        starts("20000102T0000", 1440);
        starts("20191230T0000", 7303 * 1440);
        starts("20191231T0000", 7304 * 1440);
        noTime("19991231T0000");
        noTime("20200101T0000");
    }

    /** Day 0 is a Saturday, and so is every seventh one. */
    private static void firstDayIsASaturday() {
        Check.due(new String[] {"DTSTART:20000101T0000", "DURATION:PT1M", "RRULE:FREQ=DAILY;BYDAY=SA;COUNT=3"},
                "20000101T0000", "20000108T0000", "20000115T0000");
        String[] weekdays = {"SA", "SU", "MO", "TU", "WE", "TH", "FR"};
        for (int day = 0; day < 7; day++) {
            String time = String.format("200001%02dT0000", day + 1);
            String rule = "RRULE:FREQ=DAILY;COUNT=2;BYDAY=" + weekdays[day];
            Check.due(new String[] {"DTSTART:" + time, "DURATION:PT1M", rule},
                    time, String.format("200001%02dT0000", day + 8));
        }
        Check.due(new String[] {"DTSTART:20191224T0000", "DURATION:PT1M", "RRULE:FREQ=DAILY;BYDAY=TU"},
                "20191224T0000", "20191231T0000");
    }

    /** Months and leap years are as usual (2000 is one). */
    private static void monthsAndLeapYears() {
        int day = 0;
        for (int year = 2000; year <= 2019; year++) {
            for (int month = 1; month <= 12; month++) {
                int length = YearMonth.of(year, month).lengthOfMonth();
                starts(String.format("%d%02d01T0000", year, month), day * 1440);
                day += length;
                starts(String.format("%d%02d%02dT2359", year, month, length), day * 1440 - 1);
                noTime(String.format("%d%02d%02dT0000", year, month, length + 1));
                noTime(String.format("%d%02d00T0000", year, month));
            }
            noTime(year + "0001T0000");
            noTime(year + "1301T0000");
        }
        noTime("20010229T0000");
        noTime("20190229T0000");
        starts("20000229T0000", 59 * 1440);
    }

    /** A MINUTE is 1440 times a day and the minutes since its midnight, 0 .. 10519199. */
    private static void minutesOfADay() {
        starts("20000101T0000", 0);
        starts("20000101T0059", 59);
        starts("20000101T0100", 60);
        starts("20000101T2359", 1439);
        starts("20000102T0000", 1440);
        starts("20191231T2359", 10519199);
    }

    /** Before the first change the offset is 0. */
    private static void noChange() {
        for (int zone = 0; zone < 3; zone++) {
            RecurrenceDesk desk = new RecurrenceDesk();
            int z = zone;
            for (int minute : new int[] {0, 1, LAST}) {
                Check.equal("world without changes", minute, () -> desk.world(z, minute));
            }
            desk.change(z, 2000, -30);
            Check.equal("the last minute before the first change", 1999, () -> desk.world(z, 1999));
            Check.equal("the first minute of all", 0, () -> desk.world(z, 0));
            Check.equal("another zone", 2000, () -> desk.world((z + 1) % 3, 2000));
        }
    }

    /** Changes, at most 8, each one the offset from then on. */
    private static void eightChanges() {
        for (int zone = 0; zone < 3; zone++) {
            RecurrenceDesk desk = new RecurrenceDesk();
            int z = zone;
            for (int i = 1; i <= 8; i++) {
                desk.change(z, 1000 * i, -10 * i);
            }
            Check.refused("a ninth change", IllegalStateException.class, () -> desk.change(z, 9000, -90));
            for (int i = 1; i <= 8; i++) {
                int n = i;
                Check.equal("behind change " + n, 1000 * n + 500 + 10 * n, () -> desk.world(z, 1000 * n + 500));
            }
            Check.equal("behind the change that was refused", 9580, () -> desk.world(z, 9500));
        }
    }

    /** The offset changes at the very minute of the world that is told. */
    private static void atAChange() {
        RecurrenceDesk desk = new RecurrenceDesk();
        desk.change(0, 0, 100);
        Check.equal("the minute of a change at 0", 0, () -> desk.world(0, 100));
        Check.equal("the last minute that it leaves out", 99, () -> desk.world(0, 99));
        Check.equal("the first minute that it leaves out", 0, () -> desk.world(0, 0));
        desk.change(1, LAST, -100);
        Check.equal("the minute before a change at the last one", LAST - 1, () -> desk.world(1, LAST - 1));
        Check.equal("behind a change at the last one", LAST + 100, () -> desk.world(1, LAST));
        desk.change(2, 500, 0);
        Check.equal("a change of nothing", 500, () -> desk.world(2, 500));
        Check.equal("before a change of nothing", 499, () -> desk.world(2, 499));
    }

    /** The least minute of the world w for which m is w and the offset at w together. */
    private static void leastMinuteOfTheWorld() {
        RecurrenceDesk desk = new RecurrenceDesk();
        desk.change(0, 2000, 60);
        desk.change(0, 4000, 0);
        Check.equal("the last minute that comes once", 3939, () -> desk.world(0, 3999));
        Check.equal("the first minute that comes twice", 3940, () -> desk.world(0, 4000));
        Check.equal("the last minute that comes twice", 3999, () -> desk.world(0, 4059));
        Check.equal("the first minute behind them", 4060, () -> desk.world(0, 4060));
        desk.change(1, 2000, -1);
        desk.change(1, 2001, -2);
        desk.change(1, 2002, -3);
        Check.equal("a minute that comes four times", 1999, () -> desk.world(1, 1999));
        Check.equal("the first minute behind it", 2003, () -> desk.world(1, 2000));
    }

    /** If there is none, it is m less the offset that was in force before the change that leaves it out. */
    private static void leftOutMinutes() {
        RecurrenceDesk desk = new RecurrenceDesk();
        desk.change(0, 1000, -30);
        desk.change(0, 2000, 30);
        Check.equal("the last minute before", 1999, () -> desk.world(0, 1969));
        Check.equal("the first minute left out", 2000, () -> desk.world(0, 1970));
        Check.equal("the last minute left out", 2059, () -> desk.world(0, 2029));
        Check.equal("the first minute behind", 2000, () -> desk.world(0, 2030));
        desk.change(1, 1000, 1);
        Check.equal("the only minute left out", 1000, () -> desk.world(1, 1000));
        Check.equal("the minute behind it", 1000, () -> desk.world(1, 1001));
    }

    /** The first change at a minute w for which w and the old offset together are at most m, the new ones more. */
    private static void firstChangeThatLeavesOut() {
        RecurrenceDesk desk = new RecurrenceDesk();
        desk.change(0, 1000, 100);
        desk.change(0, 1001, 50);
        desk.change(0, 1002, 400);
        Check.equal("left out by the first and the third", 1060, () -> desk.world(0, 1060));
        Check.equal("had by the second", 1001, () -> desk.world(0, 1051));
        Check.equal("had by the first", 1000, () -> desk.world(0, 1100));
        Check.equal("left out by the third", 1051, () -> desk.world(0, 1101));
        Check.equal("the last one left out", 1351, () -> desk.world(0, 1401));
        Check.equal("the first one behind", 1002, () -> desk.world(0, 1402));
        desk.change(1, 1000, 100);
        desk.change(1, 1001, 500);
        Check.equal("left out by the first alone", 1099, () -> desk.world(1, 1099));
        Check.equal("between the two", 1000, () -> desk.world(1, 1100));
        Check.equal("left out by the second alone", 1001, () -> desk.world(1, 1101));
        Check.equal("the last one left out by the second", 1400, () -> desk.world(1, 1500));
    }

    /** A local minute may be a minute of the world behind the last day. */
    private static void endsOfTheWorld() {
        RecurrenceDesk desk = new RecurrenceDesk();
        desk.change(0, 0, -840);
        Check.equal("the first minute", 840, () -> desk.world(0, 0));
        Check.equal("the last minute", LAST + 840, () -> desk.world(0, LAST));
        desk.change(1, 0, 840);
        Check.equal("the first minute", 0, () -> desk.world(1, 0));
        Check.equal("the last minute left out", 839, () -> desk.world(1, 839));
        Check.equal("the first minute that is had", 0, () -> desk.world(1, 840));
        Check.equal("the last minute", LAST - 840, () -> desk.world(1, LAST));
        Check.book(desk, 0, "DTSTART;TZID=0:20191231T2359", "DURATION:PT1M");
        Check.equal("an instance at the last minute", LAST + 840, () -> desk.instance(0, 0, 0));
    }

    /** PEOPLE 0 .. 3 have at most 4 EVENTS each. */
    private static void people() {
        RecurrenceDesk desk = new RecurrenceDesk();
        for (int i = 0; i < 16; i++) {
            int person = i / 4;
            Check.type(desk, Bounds.EVENT);
            Check.equal("book(" + person + ")", 1, () -> desk.book(person));
        }
        Check.type(desk, Bounds.EVENT);
        for (int i = 0; i < 4; i++) {
            int person = i;
            Check.equal("events(" + person + ")", 4, () -> desk.events(person));
            Check.refused("book(" + person + ")", IllegalStateException.class, () -> desk.book(person));
        }
        for (int person : Bounds.outside(0, 3)) {
            Check.refused("book(" + person + ")", IllegalArgumentException.class, () -> desk.book(person));
        }
    }

    /** Somebody is BUSY at a minute of the world if it is one of the n minutes from an instance on. */
    private static void minutesOfAnInstance() {
        for (int n : new int[] {1, 2, 1439, 1440}) {
            RecurrenceDesk desk = new RecurrenceDesk();
            Check.book(desk, 2, "DTSTART:20000102T0000", "DURATION:PT" + n + "M");
            Check.equal("the minute before", false, () -> desk.busy(2, 1439));
            Check.equal("the first minute", true, () -> desk.busy(2, 1440));
            Check.equal("the last minute", true, () -> desk.busy(2, 1439 + n));
            Check.equal("the minute behind", false, () -> desk.busy(2, 1440 + n));
            Check.equal("of nobody else", false, () -> desk.busy(1, 1440));
            Check.equal("the stretch", 1440 + n, () -> desk.stretch(2, 0, 1));
            Check.equal("the slot behind", 1440 + n, () -> desk.slot(4, 1440, LAST, 1));
        }
    }

    /** An object is used for at most 512 calls: the last one of them is answered like the first. */
    private static void fiveHundredAndTwelveCalls() {
        RecurrenceDesk desk = new RecurrenceDesk();
        String[] lines = {"DTSTART:20000101T0000", "DURATION:PT9M", "RRULE:FREQ=YEARLY;BYDAY=53SU"};
        // Nine calls that type, one that books and one that cancels.
        int calls = 0;
        for (; calls + 11 <= 511; calls += 11) {
            Check.equal("book", 5, () -> Check.book(desk, 3, lines));
            Check.equal("cancel", 0, () -> desk.cancel(3, 0));
        }
        for (; calls < 511; calls++) {
            Check.equal("wipe()", 0, desk::wipe);
        }
        Check.equal("the last call", 0, () -> desk.slot(15, 0, LAST, 1440));
    }
}
