import java.util.ArrayList;
import java.util.List;

/** Desks at the ends of what they can hold, and calls that must be refused there and leave them as they were. */
final class Bounds {
    static final String ILLEGAL_ARGUMENT = "throws.IllegalArgumentException";
    static final String ILLEGAL_STATE = "throws.IllegalStateException";
    static final String NO_SUCH_ELEMENT = "throws.NoSuchElementException";
    static final String EVENT = Check.text("DTSTART:20000103T0100", "DURATION:PT5M");
    static final int FIRST_CHANGE = 2880;

    private Bounds() {
    }

    interface Made {
        RecurrenceDesk desk();
    }

    interface Call {
        Object answer(RecurrenceDesk desk);
    }

    /** The nearest values outside on each side, and those that are farthest off. */
    static int[] outside(int least, int most) {
        return new int[] {least - 1, most + 1, Integer.MIN_VALUE, Integer.MAX_VALUE};
    }

    /** Each desk that a value may be refused by: nothing in it, much in it, all in it that there is room for. */
    static Made[] states() {
        return new Made[] {Bounds::empty, Bounds::used, Bounds::full};
    }

    static RecurrenceDesk empty() {
        return new RecurrenceDesk();
    }

    /** Somebody has one event and somebody two, two zones have a change, and an event is typed. */
    static RecurrenceDesk used() {
        RecurrenceDesk desk = new RecurrenceDesk();
        desk.change(0, FIRST_CHANGE, 60);
        desk.change(1, FIRST_CHANGE, -60);
        Check.book(desk, 0, "DTSTART;TZID=0:20000102T0000", "DURATION:PT60M", "RRULE:FREQ=DAILY;COUNT=3");
        Check.book(desk, 1, "DTSTART:20000101T0000", "DURATION:PT1M", "EXDATE:20000101T0000");
        Check.book(desk, 1, "DTSTART;TZID=1:20000103T0000", "DURATION:PT1440M");
        Check.type(desk, EVENT);
        return desk;
    }

    /** Everybody has four events, all zones have eight changes, and the text has 240 characters. */
    static RecurrenceDesk full() {
        RecurrenceDesk desk = new RecurrenceDesk();
        for (int i = 0; i < 8; i++) {
            for (int zone = 0; zone < 3; zone++) {
                desk.change(zone, FIRST_CHANGE + 100 * i, 10 * zone + i);
            }
        }
        for (int i = 0; i < 16; i++) {
            Check.book(desk, i % 4, "DTSTART:200001" + (10 + i) + "T0100", "DURATION:PT" + (i + 1) + "M");
        }
        Check.type(desk, fullText());
        return desk;
    }

    /** An event of 240 characters. */
    static String fullText() {
        String folds = "\n ".repeat((240 - EVENT.length()) / 2);
        return EVENT.substring(0, 1) + folds + EVENT.substring(1);
    }

    /** The call is refused by a desk in such a state, and leaves it as it was. */
    static void refused(String call, Object refusal, Made state, Call asked) {
        RecurrenceDesk desk = state.desk();
        Check.equal(call, refusal, () -> asked.answer(desk));
        Check.equal(call + " leaves everything as it was", answers(state.desk()), () -> answers(desk));
    }

    /** The call is refused by every state. */
    static void refused(String call, Object refusal, Call asked) {
        for (Made state : states()) {
            refused(call, refusal, state, asked);
        }
    }

    /** All that a desk can be asked; what must change it to be seen comes last. */
    static List<Object> answers(RecurrenceDesk desk) {
        List<Object> row = new ArrayList<>();
        for (int person = 0; person < 4; person++) {
            addPerson(row, desk, person);
        }
        for (int zone = 0; zone < 3; zone++) {
            for (int minute : new int[] {0, FIRST_CHANGE - 1, FIRST_CHANGE, FIRST_CHANGE + 60, Check.LAST_MINUTE}) {
                row.add(desk.world(zone, minute));
            }
        }
        for (int people = 0; people < 16; people++) {
            int some = people;
            row.add(Check.answerOf(() -> desk.slot(some, FIRST_CHANGE, Check.LAST_MINUTE, 1)));
        }
        addText(row, desk);
        for (int i = 0; i < 3; i++) {
            int zone = i;
            row.add(Check.answerOf(() -> desk.change(zone, Check.LAST_MINUTE, 1)));
        }
        return row;
    }

    private static void addPerson(List<Object> row, RecurrenceDesk desk, int person) {
        row.add(desk.events(person));
        for (int event = 0; event < desk.events(person); event++) {
            row.add(desk.instances(person, event));
            for (int i = 0; i < desk.instances(person, event); i++) {
                row.add(desk.instance(person, event, i));
            }
        }
        row.add(desk.stretches(person));
        for (int i = 0; i < desk.stretches(person); i++) {
            row.add(desk.stretch(person, i, 0));
            row.add(desk.stretch(person, i, 1));
            row.add(desk.busy(person, desk.stretch(person, i, 0)));
        }
    }

    /** Books the text, if there is room made for it, and tells what remains. */
    private static void addText(List<Object> row, RecurrenceDesk desk) {
        row.add(Check.answerOf(() -> desk.cancel(3, 0)));
        row.add(Check.answerOf(() -> desk.book(3)));
        row.add(desk.instance(3, desk.events(3) - 1, 0));
        row.add(desk.stretches(3));
        row.add(desk.wipe());
    }
}
