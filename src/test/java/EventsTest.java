/** Promises 6 (cancel), 7 (events), 8 (instances) and 9 (instance). */
final class EventsTest {
    private static final String LENGTH = "DURATION:PT10M";

    public static void main(String[] args) {
        eventsCount();
        wrongArguments();
        cancelMovesUp();
        cancelRefuses();
        cancelledRoomIsUsedAgain();
        cancelFrees();
        Check.finish();
    }

    private static void book(RecurrenceDesk desk, int person, int hour, int count) {
        Check.book(desk, person, String.format("DTSTART:20000101T%02d00", hour), LENGTH,
                "RRULE:FREQ=DAILY;COUNT=" + count);
    }

    private static void eventsCount() {
        RecurrenceDesk desk = new RecurrenceDesk();
        for (int i = 0; i < 4; i++) {
            book(desk, 2, i, i + 1);
            Check.equal("events(2)", i + 1, () -> desk.events(2));
        }
        Check.equal("events(1)", 0, () -> desk.events(1));
        Check.equal("events(4)", Check.BAD, () -> desk.events(4));
        Check.equal("events(-1)", Check.BAD, () -> desk.events(-1));
        for (int i = 0; i < 4; i++) {
            int event = i;
            Check.equal("instances(2, i)", event + 1, () -> desk.instances(2, event));
            Check.equal("instance(2, i, i)", event * 1500, () -> desk.instance(2, event, event));
            Check.equal("instance(2, i, i + 1)", Check.BAD, () -> desk.instance(2, event, event + 1));
        }
    }

    private static void wrongArguments() {
        RecurrenceDesk desk = new RecurrenceDesk();
        book(desk, 0, 5, 2);
        for (int wrong : new int[] {-1, 4, Integer.MIN_VALUE, Integer.MAX_VALUE}) {
            Check.equal("instances of no person", Check.BAD, () -> desk.instances(wrong, 0));
            Check.equal("instances of no event", Check.BAD, () -> desk.instances(0, wrong));
            Check.equal("instance of no person", Check.BAD, () -> desk.instance(wrong, 0, 0));
            Check.equal("instance of no event", Check.BAD, () -> desk.instance(0, wrong, 0));
            Check.equal("no instance", Check.BAD, () -> desk.instance(0, 0, wrong));
        }
        Check.equal("instances(0, 1)", Check.BAD, () -> desk.instances(0, 1));
        Check.equal("instance(0, 1, 0)", Check.BAD, () -> desk.instance(0, 1, 0));
        Check.equal("instance(1, 0, 0)", Check.BAD, () -> desk.instance(1, 0, 0));
        Check.equal("instance(0, 0, 1)", 1740, () -> desk.instance(0, 0, 1));
        Check.book(desk, 1, "DTSTART:20000101T0000", LENGTH, "EXDATE:20000101T0000");
        Check.equal("events(1)", 1, () -> desk.events(1));
        Check.equal("instances of what was left out", 0, () -> desk.instances(1, 0));
        Check.equal("instance of what was left out", Check.BAD, () -> desk.instance(1, 0, 0));
    }

    private static void cancelMovesUp() {
        RecurrenceDesk desk = new RecurrenceDesk();
        for (int i = 0; i < 4; i++) {
            book(desk, 0, i, i + 1);
            book(desk, 1, i, 1);
        }
        Check.equal("cancel(0, 1)", 3, () -> desk.cancel(0, 1));
        Check.equal("instances(0, 0)", 1, () -> desk.instances(0, 0));
        Check.equal("instances(0, 1)", 3, () -> desk.instances(0, 1));
        Check.equal("instances(0, 2)", 4, () -> desk.instances(0, 2));
        Check.equal("instances(0, 3)", Check.BAD, () -> desk.instances(0, 3));
        Check.equal("instance(0, 2, 0)", 180, () -> desk.instance(0, 2, 0));
        Check.equal("cancel(0, 2)", 2, () -> desk.cancel(0, 2));
        Check.equal("cancel(0, 0)", 1, () -> desk.cancel(0, 0));
        Check.equal("instance(0, 0, 0)", 120, () -> desk.instance(0, 0, 0));
        Check.equal("cancel(0, 0)", 0, () -> desk.cancel(0, 0));
        Check.equal("events(0)", 0, () -> desk.events(0));
        Check.equal("events(1)", 4, () -> desk.events(1));
    }

    private static void cancelRefuses() {
        RecurrenceDesk desk = new RecurrenceDesk();
        book(desk, 3, 0, 1);
        int[][] wrong = {{-1, 0}, {4, 0}, {3, 1}, {3, -1}, {3, 4}, {0, 0}, {Integer.MIN_VALUE, Integer.MAX_VALUE}};
        for (int[] pair : wrong) {
            Check.refused("cancel(" + pair[0] + ", " + pair[1] + ")", IllegalArgumentException.class,
                    () -> desk.cancel(pair[0], pair[1]));
        }
        Check.equal("events(3)", 1, () -> desk.events(3));
    }

    private static void cancelledRoomIsUsedAgain() {
        RecurrenceDesk desk = new RecurrenceDesk();
        for (int i = 0; i < 4; i++) {
            book(desk, 0, i, 40);
        }
        desk.cancel(0, 1);
        book(desk, 0, 9, 2);
        Check.equal("events(0)", 4, () -> desk.events(0));
        Check.equal("instances(0, 3)", 2, () -> desk.instances(0, 3));
        Check.equal("instance(0, 3, 1)", 1980, () -> desk.instance(0, 3, 1));
        Check.equal("instance(0, 3, 2)", Check.BAD, () -> desk.instance(0, 3, 2));
        Check.equal("instance(0, 1, 39)", 39 * 1440 + 120, () -> desk.instance(0, 1, 39));
        Check.equal("instance(0, 2, 39)", 39 * 1440 + 180, () -> desk.instance(0, 2, 39));
    }

    private static void cancelFrees() {
        RecurrenceDesk desk = new RecurrenceDesk();
        book(desk, 0, 1, 1);
        book(desk, 0, 1, 2);
        desk.cancel(0, 1);
        Check.equal("busy(0, 60)", true, () -> desk.busy(0, 60));
        Check.equal("busy(0, 1500)", false, () -> desk.busy(0, 1500));
        Check.equal("stretches(0)", 1, () -> desk.stretches(0));
        Check.equal("stretch(0, 1, 0)", Check.BAD, () -> desk.stretch(0, 1, 0));
        Check.equal("stretch(0, 1, 1)", Check.BAD, () -> desk.stretch(0, 1, 1));
        desk.cancel(0, 0);
        Check.equal("busy(0, 60)", false, () -> desk.busy(0, 60));
        Check.equal("stretches(0)", 0, () -> desk.stretches(0));
    }
}
