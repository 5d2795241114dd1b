/** Every call with every mixture of values at the edges, in several states, answers what the model answers. */
final class EdgesTest {
    private static final int MOST_CALLS = 512;
    private static final int LAST = Check.LAST_MINUTE;
    private static final int LOW = Integer.MIN_VALUE;
    private static final int HIGH = Integer.MAX_VALUE;
    private static final int[] INDEXES = {LOW, -1, 0, 1, 2, 3, 4, 39, 40, HIGH};
    private static final int[] MINUTES = {LOW, -1, 0, 1440, 2880, LAST - 1440, LAST, LAST + 1, HIGH};
    private static final int[] OFFSETS = {LOW, -841, -840, 0, 840, 841, HIGH};
    private static final int[] LENGTHS = {LOW, 0, 1, 2, 1440, 1441, HIGH};
    private static final int[] PEOPLE = {LOW, -1, 0, 1, 15, 16, HIGH};
    private static final int[] COUNTS = {LOW, -1, 0, 1, 4, 7, 8, 9, 264, HIGH};
    private static final long[] CHARACTERS = {0L, -1L, Long.MIN_VALUE, 0x0A20417E0A20417EL, 0x0A20417E0A20417FL,
        0x1F20417E0A20417EL, 0x804142430A44547EL};
    private static final int STATES = 4;

    private int state;
    private int calls;
    private RecurrenceDesk desk;
    private Model model;

    public static void main(String[] args) {
        EdgesTest test = new EdgesTest();
        for (int i = 0; i < STATES; i++) {
            test.state = i;
            test.callsThatChange();
            test.callsThatAsk();
        }
        Check.finish();
    }

    private void callsThatChange() {
        for (int a : INDEXES) {
            begin();
            same("book(" + a + ")", () -> desk.book(a), () -> model.book(a));
            for (int b : INDEXES) {
                begin();
                same("cancel(" + a + ", " + b + ")", () -> desk.cancel(a, b), () -> model.cancel(a, b));
            }
            for (int b : MINUTES) {
                for (int c : OFFSETS) {
                    begin();
                    same("change(" + a + ", " + b + ", " + c + ")", () -> desk.change(a, b, c),
                            () -> model.change(a, b, c));
                }
            }
        }
        for (long a : CHARACTERS) {
            for (int b : COUNTS) {
                begin();
                same("type(" + a + ", " + b + ")", () -> desk.type(a, b), () -> model.type(a, b));
                same("wipe()", () -> desk.wipe(), () -> model.wipe());
            }
        }
    }

    private void callsThatAsk() {
        begin();
        for (int a : INDEXES) {
            same("events(" + a + ")", () -> desk.events(a), () -> model.events(a));
            same("stretches(" + a + ")", () -> desk.stretches(a), () -> model.stretches(a));
            for (int b : INDEXES) {
                same("instances(" + a + ", " + b + ")", () -> desk.instances(a, b), () -> model.instances(a, b));
                for (int c : INDEXES) {
                    same("instance(" + a + ", " + b + ", " + c + ")", () -> desk.instance(a, b, c),
                            () -> model.instance(a, b, c));
                    same("stretch(" + a + ", " + b + ", " + c + ")", () -> desk.stretch(a, b, c),
                            () -> model.stretch(a, b, c));
                }
            }
            for (int b : MINUTES) {
                same("busy(" + a + ", " + b + ")", () -> desk.busy(a, b), () -> model.busy(a, b));
                same("world(" + a + ", " + b + ")", () -> desk.world(a, b), () -> model.world(a, b));
            }
        }
        for (int a : PEOPLE) {
            for (int b : MINUTES) {
                for (int c : MINUTES) {
                    askSlots(a, b, c);
                }
            }
        }
    }

    private void askSlots(int people, int from, int to) {
        for (int length : LENGTHS) {
            same("slot(" + people + ", " + from + ", " + to + ", " + length + ")",
                    () -> desk.slot(people, from, to, length), () -> model.slot(people, from, to, length));
        }
    }

    private void same(String call, Check.Call program, Check.Call due) {
        if (calls >= MOST_CALLS) {
            begin();
        }
        calls++;
        Check.equal("state " + state + ": " + call, Check.answerOf(due), program);
    }

    /** A new desk and a new model, with nothing, little, all early or all late in them. */
    private void begin() {
        calls = 0;
        desk = new RecurrenceDesk();
        model = new Model();
        if (state == 1) {
            change(1, 2880, 60);
            book(2, "DTSTART;TZID=1:20000103T0000\nDURATION:PT1440M\n");
            type(Bounds.EVENT);
        } else if (state > 1) {
            boolean late = state == 3;
            for (int i = 0; i < 8; i++) {
                change(2, late ? LAST - 7 + i : i, i % 2 == 0 ? -840 : 840);
            }
            for (int i = 0; i < 8; i++) {
                String start = (late ? "2019123" + i / 4 : "2000010" + (1 + i / 4)) + "T2359";
                book(i % 2, "DTSTART;TZID=2:" + start + "\nDURATION:PT" + (1440 - i) + "M\n");
            }
            type(late ? Bounds.fullText() : Bounds.fullText().substring(0, 236));
        }
    }

    private void change(int zone, int minute, int offset) {
        same("change", () -> desk.change(zone, minute, offset), () -> model.change(zone, minute, offset));
    }

    private void book(int person, String text) {
        type(text);
        same("book", () -> desk.book(person), () -> model.book(person));
    }

    private void type(String text) {
        for (int i = 0; i < text.length(); i += 8) {
            String piece = text.substring(i, Math.min(i + 8, text.length()));
            same("type", () -> desk.type(Check.packed(piece), piece.length()),
                    () -> model.type(Check.packed(piece), piece.length()));
        }
    }
}
