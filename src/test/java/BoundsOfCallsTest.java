/** The boundaries that the promises name, promise by promise: the last value inside, the first ones outside. */
final class BoundsOfCallsTest {
    private static final int LAST = Check.LAST_MINUTE;

    public static void main(String[] args) {
        newObjectIsEmpty();
        changeOfZones();
        changeAtMinutes();
        changeBehindTheLatest();
        changeOfOffsets();
        changeOfFullZones();
        typeOfOneToEight();
        typeOfCharacters();
        typeOfFullTexts();
        wipeOfEmptyAndFullTexts();
        bookForPeople();
        bookOfNoEvent();
        bookOfAFifthEvent();
        bookOfAFullText();
        cancelOfPeopleAndEvents();
        cancelOfFirstAndLast();
        eventsOfPeople();
        instancesOfEvents();
        instancesOfNoneAndForty();
        instanceOfEvents();
        worldOfZones();
        worldOfMinutes();
        busyOfPeople();
        busyAtMinutes();
        stretchesOfPeople();
        stretchesOfNobodyBusy();
        stretchesOfAFullPerson();
        stretchOfPeopleAndEnds();
        slotOfPeople();
        slotFromAndTo();
        slotOfLengths();
        slotWithNoRoom();
        slotOfPeopleInTurn();
        Check.finish();
    }

    private static void equal(String call, Object want, Bounds.Made state, Bounds.Call asked) {
        RecurrenceDesk desk = state.desk();
        Check.equal(call, want, () -> asked.answer(desk));
    }

    /** Promise 1: no changes, no events, an empty text. */
    private static void newObjectIsEmpty() {
        for (int zone = 0; zone < 3; zone++) {
            int z = zone;
            equal("the first change", 1, Bounds::empty, desk -> desk.change(z, 0, 0));
            equal("world without changes", 0, Bounds::empty, desk -> desk.world(z, 0));
            equal("world without changes", LAST, Bounds::empty, desk -> desk.world(z, LAST));
        }
        for (int person = 0; person < 4; person++) {
            int p = person;
            equal("events", 0, Bounds::empty, desk -> desk.events(p));
            equal("instances", Check.BAD, Bounds::empty, desk -> desk.instances(p, 0));
            equal("stretches", 0, Bounds::empty, desk -> desk.stretches(p));
            Bounds.refused("book of an empty text", Bounds.ILLEGAL_ARGUMENT, Bounds::empty, desk -> desk.book(p));
        }
        equal("wipe", 0, Bounds::empty, RecurrenceDesk::wipe);
    }

    /** Promise 2: when zone is not 0 .. 2. */
    private static void changeOfZones() {
        equal("change(0, ..)", 1, Bounds::empty, desk -> desk.change(0, 5, 5));
        equal("change(2, ..)", 1, Bounds::empty, desk -> desk.change(2, 5, 5));
        for (int zone : Bounds.outside(0, 2)) {
            Bounds.refused("change(" + zone + ", ..)", Bounds.ILLEGAL_ARGUMENT, desk -> desk.change(zone, LAST, 5));
        }
    }

    /** Promise 2: minute not 0 .. 10519199. */
    private static void changeAtMinutes() {
        equal("change(0, 0, 5)", 1, Bounds::empty, desk -> desk.change(0, 0, 5));
        equal("change(0, last, 5)", 1, Bounds::empty, desk -> desk.change(0, LAST, 5));
        for (int minute : Bounds.outside(0, LAST)) {
            Bounds.refused("change(2, " + minute + ", 5)", Bounds.ILLEGAL_ARGUMENT, desk -> desk.change(2, minute, 5));
        }
    }

    /** Promise 2: or not later than the zone's latest change. */
    private static void changeBehindTheLatest() {
        int latest = Bounds.FIRST_CHANGE;
        equal("a minute later", 2, Bounds::used, desk -> desk.change(1, latest + 1, 0));
        equal("earlier in another zone", 1, Bounds::used, desk -> desk.change(2, latest - 1, 0));
        for (int minute : new int[] {latest, latest - 1, 0}) {
            Bounds.refused("change(1, " + minute + ", 0)", Bounds.ILLEGAL_ARGUMENT, Bounds::used,
                    desk -> desk.change(1, minute, 0));
        }
        RecurrenceDesk desk = new RecurrenceDesk();
        Check.equal("change at the first minute", 1, () -> desk.change(0, 0, 1));
        Check.refused("and again", IllegalArgumentException.class, () -> desk.change(0, 0, 2));
        Check.equal("change at the last minute", 2, () -> desk.change(0, LAST, 2));
        Check.refused("and again", IllegalArgumentException.class, () -> desk.change(0, LAST, 3));
    }

    /** Promise 2: or offset not -840 .. 840. */
    private static void changeOfOffsets() {
        RecurrenceDesk least = new RecurrenceDesk();
        Check.equal("change(0, 1000, -840)", 1, () -> least.change(0, 1000, -840));
        Check.equal("the first minute behind it", 1840, () -> least.world(0, 1000));
        RecurrenceDesk most = new RecurrenceDesk();
        Check.equal("change(0, 1000, 840)", 1, () -> most.change(0, 1000, 840));
        Check.equal("the last minute left out", 1839, () -> most.world(0, 1839));
        Check.equal("the first minute behind it", 1000, () -> most.world(0, 1840));
        for (int offset : Bounds.outside(-840, 840)) {
            Bounds.refused("change(0, last, " + offset + ")", Bounds.ILLEGAL_ARGUMENT,
                    desk -> desk.change(0, LAST, offset));
        }
    }

    /** Promise 2: IllegalStateException when it has 8, if nothing is wrong with the arguments. */
    private static void changeOfFullZones() {
        RecurrenceDesk desk = new RecurrenceDesk();
        for (int i = 1; i <= 8; i++) {
            int n = i;
            Check.equal("change number " + n, n, () -> desk.change(1, n, n));
        }
        Check.refused("a ninth change", IllegalStateException.class, () -> desk.change(1, 9, 9));
        Check.equal("the other zones have room", 1, () -> desk.change(0, 9, 9));
        Check.equal("the eighth one holds", 1000 - 8, () -> desk.world(1, 1000));
        for (int zone = 0; zone < 3; zone++) {
            int z = zone;
            Bounds.refused("a ninth change", Bounds.ILLEGAL_STATE, Bounds::full, full -> full.change(z, LAST, 840));
            Bounds.refused("an earlier ninth", Bounds.ILLEGAL_ARGUMENT, Bounds::full, full -> full.change(z, 0, 0));
            Bounds.refused("a ninth of a wrong offset", Bounds.ILLEGAL_ARGUMENT, Bounds::full,
                    full -> full.change(z, LAST, 841));
            Bounds.refused("a ninth behind the last minute", Bounds.ILLEGAL_ARGUMENT, Bounds::full,
                    full -> full.change(z, LAST + 1, 0));
        }
    }

    /** Promise 3: BAD when n is not 1 .. 8. */
    private static void typeOfOneToEight() {
        long characters = Check.packed("ABCDEFGH");
        equal("type of one", 1, Bounds::empty, desk -> desk.type(characters, 1));
        equal("type of eight", 8, Bounds::empty, desk -> desk.type(characters, 8));
        for (int n : Bounds.outside(1, 8)) {
            Bounds.refused("type(.., " + n + ")", Check.BAD, desk -> desk.type(characters, n));
        }
        // A count that would be a good one if only its lowest bits were looked at.
        Bounds.refused("type(.., 257)", Check.BAD, desk -> desk.type(characters, 257));
        Bounds.refused("type(.., 65537)", Check.BAD, desk -> desk.type(characters, 65537));
    }

    /** Promise 3: or one of them is no character of a text; bytes above the lowest n are none of them. */
    private static void typeOfCharacters() {
        for (int good : new int[] {10, 32, 126}) {
            for (int place = 0; place < 8; place++) {
                long characters = with(good, place);
                equal("type of " + good + " at " + place, 8, Bounds::empty, desk -> desk.type(characters, 8));
            }
        }
        for (int wrong : new int[] {0, 9, 11, 13, 31, 127, 128, 138, 160, 255}) {
            for (int place = 0; place < 8; place++) {
                int n = place + 1;
                long characters = with(wrong, place);
                Bounds.refused("type of " + wrong + " at " + place, Check.BAD, Bounds::used,
                        desk -> desk.type(characters, n));
                if (place > 0) {
                    equal("type below " + wrong, place, Bounds::empty, desk -> desk.type(characters, n - 1));
                }
            }
        }
    }

    /** Eight letters, but for one byte. */
    private static long with(int character, int place) {
        return Check.packed("ABCDEFGH") & ~(255L << 8 * place) | (long) character << 8 * place;
    }

    /** Promise 3: or there would be more than 240. */
    private static void typeOfFullTexts() {
        for (int n = 1; n <= 8; n++) {
            int more = n;
            equal("type up to 240", 240, () -> typed(240 - more), desk -> desk.type(Check.packed("ABCDEFGH"), more));
            Bounds.refused("type up to 241", Check.BAD, () -> typed(241 - more),
                    desk -> desk.type(Check.packed("ABCDEFGH"), more));
            Bounds.refused("type behind a full text", Check.BAD, Bounds::full,
                    desk -> desk.type(Check.packed("ABCDEFGH"), more));
        }
    }

    private static RecurrenceDesk typed(int size) {
        RecurrenceDesk desk = new RecurrenceDesk();
        Check.type(desk, Bounds.fullText().substring(0, size));
        return desk;
    }

    /** Promise 4: the text is empty then: how many characters it had. */
    private static void wipeOfEmptyAndFullTexts() {
        for (int size : new int[] {0, 1, 239, 240}) {
            RecurrenceDesk desk = typed(size);
            Check.equal("wipe() of " + size, size, desk::wipe);
            Check.equal("wipe() again", 0, desk::wipe);
            Check.refused("book behind wipe()", IllegalArgumentException.class, () -> desk.book(0));
            Check.equal("a full text behind wipe()", 240, () -> Check.type(desk, Bounds.fullText()));
            Check.equal("book of it", 1, () -> desk.book(0));
        }
        RecurrenceDesk full = Bounds.full();
        full.wipe();
        Check.equal("events stay", 4, () -> full.events(3));
        Check.equal("changes stay", LAST - 7, () -> full.world(0, LAST));
    }

    /** Promise 5: IllegalArgumentException when there is no such person. */
    private static void bookForPeople() {
        equal("book(0)", 1, Bounds::used, desk -> desk.book(0));
        equal("book(3)", 1, Bounds::used, desk -> desk.book(3));
        for (int person : Bounds.outside(0, 3)) {
            Bounds.refused("book(" + person + ")", Bounds.ILLEGAL_ARGUMENT, desk -> desk.book(person));
        }
    }

    /** Promise 5: or the text is no event. */
    private static void bookOfNoEvent() {
        for (String text : new String[] {"", "\n", " ", Bounds.EVENT.substring(1), "?" + Bounds.EVENT,
                Bounds.EVENT.substring(0, Bounds.EVENT.length() - 1), Bounds.EVENT + "\n", Bounds.EVENT + " "}) {
            Bounds.Made state = () -> {
                RecurrenceDesk desk = Bounds.full();
                desk.cancel(0, 0);
                desk.wipe();
                Check.type(desk, text);
                return desk;
            };
            Bounds.refused("book of no event", Bounds.ILLEGAL_ARGUMENT, state, desk -> desk.book(0));
            Bounds.refused("book of no event as a fifth one", Bounds.ILLEGAL_ARGUMENT, state, desk -> desk.book(1));
        }
    }

    /** Promise 5: IllegalStateException when they have four. */
    private static void bookOfAFifthEvent() {
        for (int person = 0; person < 4; person++) {
            int p = person;
            RecurrenceDesk desk = new RecurrenceDesk();
            for (int i = 1; i <= 4; i++) {
                Check.type(desk, Bounds.EVENT);
                Check.equal("book number " + i, 1, () -> desk.book(p));
                Check.equal("events", i, () -> desk.events(p));
            }
            Check.type(desk, Bounds.EVENT);
            Check.refused("a fifth one", IllegalStateException.class, () -> desk.book(p));
            Check.equal("others have room", 1, () -> desk.book(3 - p));
            Bounds.refused("book of a fifth one", Bounds.ILLEGAL_STATE, Bounds::full, full -> full.book(p));
        }
    }

    /** Promise 5: the text is empty then. */
    private static void bookOfAFullText() {
        RecurrenceDesk desk = typed(240);
        Check.equal("book of a full text", 1, () -> desk.book(2));
        Check.equal("the text behind it", 1, () -> desk.type('D', 1));
        Check.equal("wipe()", 1, desk::wipe);
        Check.equal("a full text again", 240, () -> Check.type(desk, Bounds.fullText()));
        Check.equal("book of it", 1, () -> desk.book(2));
        Check.refused("book of what is empty", IllegalArgumentException.class, () -> desk.book(2));
        Check.equal("events(2)", 2, () -> desk.events(2));
    }

    /** Promise 6: IllegalArgumentException when there is none. */
    private static void cancelOfPeopleAndEvents() {
        for (int wrong : Bounds.outside(0, 3)) {
            Bounds.refused("cancel(" + wrong + ", 0)", Bounds.ILLEGAL_ARGUMENT, desk -> desk.cancel(wrong, 0));
            Bounds.refused("cancel(0, " + wrong + ")", Bounds.ILLEGAL_ARGUMENT, desk -> desk.cancel(0, wrong));
        }
        for (int person = 0; person < 4; person++) {
            int p = person;
            Bounds.refused("cancel without events", Bounds.ILLEGAL_ARGUMENT, Bounds::empty, desk -> desk.cancel(p, 0));
        }
        Bounds.refused("cancel behind one", Bounds.ILLEGAL_ARGUMENT, Bounds::used, desk -> desk.cancel(0, 1));
        Bounds.refused("cancel behind two", Bounds.ILLEGAL_ARGUMENT, Bounds::used, desk -> desk.cancel(1, 2));
        Bounds.refused("cancel of nobody's", Bounds.ILLEGAL_ARGUMENT, Bounds::used, desk -> desk.cancel(2, 0));
    }

    /** Promise 6: an event of a person goes, those behind it move up: how many are left. */
    private static void cancelOfFirstAndLast() {
        for (int gone = 0; gone < 4; gone++) {
            int event = gone;
            RecurrenceDesk desk = Bounds.full();
            Check.equal("cancel(2, " + event + ")", 3, () -> desk.cancel(2, event));
            for (int i = 0; i < 3; i++) {
                int at = i;
                Check.equal("what stands at " + at, firstOf(event, at), () -> desk.instance(2, at, 0));
            }
            Check.equal("what stood last", Check.BAD, () -> desk.instance(2, 3, 0));
            Check.equal("stretches(2)", 3, () -> desk.stretches(2));
            for (int i = 0; i < 3; i++) {
                int at = i;
                Check.equal("stretch " + at, firstOf(event, at), () -> desk.stretch(2, at, 0));
            }
            Check.equal("room for another one", 1, () -> desk.book(2));
            Check.equal("what stands before it", firstOf(event, 2), () -> desk.instance(2, 2, 0));
            Check.equal("it stands last", Check.minute("20000103T0100"), () -> desk.instance(2, 3, 0));
            for (int left = 3; left >= 0; left--) {
                Check.equal("cancel(2, 0)", left, () -> desk.cancel(2, 0));
            }
            Check.refused("cancel of no event", IllegalArgumentException.class, () -> desk.cancel(2, 0));
            Check.equal("stretches(2)", 0, () -> desk.stretches(2));
            Check.equal("others keep theirs", 4, () -> desk.events(1));
        }
    }

    /** The first minute of the event that stands at a place of person 2 of a full desk, when one is gone. */
    private static int firstOf(int gone, int place) {
        int booked = place < gone ? place : place + 1;
        return Check.minute("200001" + (12 + 4 * booked) + "T0100");
    }

    /** Promise 7: BAD when there is no such person. */
    private static void eventsOfPeople() {
        int[] due = {1, 2, 0, 0};
        for (int person = 0; person < 4; person++) {
            int p = person;
            equal("events of nothing booked", 0, Bounds::empty, desk -> desk.events(p));
            equal("events", due[p], Bounds::used, desk -> desk.events(p));
            equal("events of a full person", 4, Bounds::full, desk -> desk.events(p));
        }
        for (int person : Bounds.outside(0, 3)) {
            Bounds.refused("events(" + person + ")", Check.BAD, desk -> desk.events(person));
        }
    }

    /** Promise 8: BAD when there is none. */
    private static void instancesOfEvents() {
        equal("instances(0, 0)", 3, Bounds::used, desk -> desk.instances(0, 0));
        equal("instances(3, 3)", 1, Bounds::full, desk -> desk.instances(3, 3));
        for (int wrong : Bounds.outside(0, 3)) {
            Bounds.refused("instances(" + wrong + ", 0)", Check.BAD, desk -> desk.instances(wrong, 0));
            Bounds.refused("instances(0, " + wrong + ")", Check.BAD, desk -> desk.instances(0, wrong));
        }
        Bounds.refused("instances behind one", Check.BAD, Bounds::used, desk -> desk.instances(0, 1));
        Bounds.refused("instances of nothing booked", Check.BAD, Bounds::used, desk -> desk.instances(2, 0));
    }

    /** Promise 8: 0 if all were left out; and no more than 40. */
    private static void instancesOfNoneAndForty() {
        equal("instances of what was left out", 0, Bounds::used, desk -> desk.instances(1, 0));
        equal("its first instance", Check.BAD, Bounds::used, desk -> desk.instance(1, 0, 0));
        RecurrenceDesk desk = new RecurrenceDesk();
        Check.equal("book", 40, () -> Check.book(desk, 3, "DTSTART:20000101T0000", "DURATION:PT1M", "RRULE:FREQ=DAILY"));
        Check.equal("instances(3, 0)", 40, () -> desk.instances(3, 0));
        Check.equal("instance(3, 0, 39)", 39 * 1440, () -> desk.instance(3, 0, 39));
        Check.equal("instance(3, 0, 40)", Check.BAD, () -> desk.instance(3, 0, 40));
    }

    /** Promise 9: from 0; BAD when there is none. */
    private static void instanceOfEvents() {
        equal("instance(0, 0, 0)", 1440, Bounds::used, desk -> desk.instance(0, 0, 0));
        equal("instance(0, 0, 2)", 4260, Bounds::used, desk -> desk.instance(0, 0, 2));
        for (int wrong : Bounds.outside(0, 3)) {
            Bounds.refused("instance(" + wrong + ", 0, 0)", Check.BAD, desk -> desk.instance(wrong, 0, 0));
            Bounds.refused("instance(0, " + wrong + ", 0)", Check.BAD, desk -> desk.instance(0, wrong, 0));
        }
        for (int wrong : Bounds.outside(0, 2)) {
            Bounds.refused("instance(0, 0, " + wrong + ")", Check.BAD, desk -> desk.instance(0, 0, wrong));
        }
        Bounds.refused("instance of nothing booked", Check.BAD, Bounds::used, desk -> desk.instance(2, 0, 0));
        Bounds.refused("instance behind two events", Check.BAD, Bounds::used, desk -> desk.instance(1, 2, 0));
    }

    /** Promise 10: BAD when there is no such zone. */
    private static void worldOfZones() {
        equal("world(0, 5000)", 4940, Bounds::used, desk -> desk.world(0, 5000));
        equal("world(2, 5000)", 5000, Bounds::used, desk -> desk.world(2, 5000));
        for (int zone : Bounds.outside(0, 2)) {
            Bounds.refused("world(" + zone + ", 5000)", Check.BAD, desk -> desk.world(zone, 5000));
        }
    }

    /** Promise 10: or minute is not 0 .. 10519199. */
    private static void worldOfMinutes() {
        equal("world(0, 0)", 0, Bounds::used, desk -> desk.world(0, 0));
        equal("world(0, last)", LAST - 60, Bounds::used, desk -> desk.world(0, LAST));
        for (int minute : Bounds.outside(0, LAST)) {
            for (int zone = 0; zone < 3; zone++) {
                int z = zone;
                Bounds.refused("world(" + z + ", " + minute + ")", Check.BAD, desk -> desk.world(z, minute));
            }
        }
    }

    /** Promise 11: false when there is no such person. */
    private static void busyOfPeople() {
        for (int person = 0; person < 4; person++) {
            int p = person;
            int first = Check.minute("200001" + (10 + p) + "T0100");
            equal("busy(" + p + ", ..)", true, Bounds::full, desk -> desk.busy(p, first));
            equal("busy of nobody's minute", false, Bounds::empty, desk -> desk.busy(p, first));
            equal("busy at the first minute", p == 0, Bounds::used, desk -> desk.busy(p, 1440));
        }
        for (int person : Bounds.outside(0, 3)) {
            Bounds.refused("busy(" + person + ", 1440)", false, desk -> desk.busy(person, 1440));
        }
    }

    /** Promise 11: whether a person is busy at a minute, the first and the last of all too. */
    private static void busyAtMinutes() {
        RecurrenceDesk desk = new RecurrenceDesk();
        Check.book(desk, 0, "DTSTART:20000101T0000", "DURATION:PT1M", "RDATE:20191231T2359");
        Check.equal("busy at the first minute", true, () -> desk.busy(0, 0));
        Check.equal("busy behind it", false, () -> desk.busy(0, 1));
        Check.equal("busy before the last minute", false, () -> desk.busy(0, LAST - 1));
        Check.equal("busy at the last minute", true, () -> desk.busy(0, LAST));
        for (int minute : Bounds.outside(0, LAST)) {
            Check.equal("busy(0, " + minute + ")", false, () -> desk.busy(0, minute));
        }
    }

    /** Promise 12: BAD when there is no such person. */
    private static void stretchesOfPeople() {
        equal("stretches(0)", 3, Bounds::used, desk -> desk.stretches(0));
        equal("stretches(3)", 4, Bounds::full, desk -> desk.stretches(3));
        for (int person : Bounds.outside(0, 3)) {
            Bounds.refused("stretches(" + person + ")", Check.BAD, desk -> desk.stretches(person));
        }
    }

    /** Promise 12: how many stretches there are, none of them, and as long as can be. */
    private static void stretchesOfNobodyBusy() {
        equal("stretches of nothing booked", 0, Bounds::used, desk -> desk.stretches(2));
        RecurrenceDesk desk = new RecurrenceDesk();
        Check.book(desk, 0, "DTSTART:20000101T0000", "DURATION:PT10M", "EXDATE:20000101T0000");
        Check.equal("stretches of an event without instances", 0, () -> desk.stretches(0));
        Check.book(desk, 0, "DTSTART:20000101T0010", "DURATION:PT10M", "RDATE:20000101T0021");
        Check.equal("a minute between them", 2, () -> desk.stretches(0));
        Check.book(desk, 0, "DTSTART:20000101T0000", "DURATION:PT10M");
        Check.equal("one ends where another begins", 2, () -> desk.stretches(0));
        Check.equal("its first minute", 0, () -> desk.stretch(0, 0, 0));
        Check.equal("the first one behind it", 20, () -> desk.stretch(0, 0, 1));
        Check.book(desk, 0, "DTSTART:20000101T0020", "DURATION:PT1M");
        Check.equal("the minute between them", 1, () -> desk.stretches(0));
        Check.equal("the first one behind all", 31, () -> desk.stretch(0, 0, 1));
    }

    /** Promises 12 and 13: as many stretches as there can be, in their order, whichever event came first. */
    private static void stretchesOfAFullPerson() {
        RecurrenceDesk desk = new RecurrenceDesk();
        for (int hour : new int[] {2, 0, 3, 1}) {
            Check.book(desk, 3, "DTSTART:20000101T0" + hour + "00", "DURATION:PT59M", "RRULE:FREQ=DAILY");
        }
        Check.equal("stretches(3)", 160, () -> desk.stretches(3));
        for (int i = 0; i < 160; i++) {
            int at = i;
            int first = at / 4 * 1440 + at % 4 * 60;
            Check.equal("the first minute of " + at, first, () -> desk.stretch(3, at, 0));
            Check.equal("the first one behind " + at, first + 59, () -> desk.stretch(3, at, 1));
        }
        Check.equal("the stretch behind the last", Check.BAD, () -> desk.stretch(3, 160, 0));
        Check.equal("cancel(3, 1)", 3, () -> desk.cancel(3, 1));
        Check.equal("stretches(3)", 120, () -> desk.stretches(3));
        Check.equal("the first one left", 60, () -> desk.stretch(3, 0, 0));
        Check.equal("the stretch behind the last", Check.BAD, () -> desk.stretch(3, 120, 1));
    }

    /** Promise 13: BAD when there is none, or end is neither. */
    private static void stretchOfPeopleAndEnds() {
        equal("stretch(0, 0, 0)", 1440, Bounds::used, desk -> desk.stretch(0, 0, 0));
        equal("stretch(0, 0, 1)", 1500, Bounds::used, desk -> desk.stretch(0, 0, 1));
        equal("stretch(3, 3, 1)", Check.minute("20000125T0116"), Bounds::full, desk -> desk.stretch(3, 3, 1));
        for (int end = 0; end <= 1; end++) {
            int e = end;
            for (int wrong : Bounds.outside(0, 3)) {
                Bounds.refused("stretch(" + wrong + ", 0, ..)", Check.BAD, desk -> desk.stretch(wrong, 0, e));
                Bounds.refused("stretch(0, " + wrong + ", ..)", Check.BAD, desk -> desk.stretch(0, wrong, e));
            }
            Bounds.refused("stretch behind three", Check.BAD, Bounds::used, desk -> desk.stretch(0, 3, e));
            Bounds.refused("stretch of nothing booked", Check.BAD, Bounds::used, desk -> desk.stretch(2, 0, e));
        }
        for (int end : Bounds.outside(0, 1)) {
            Bounds.refused("stretch(0, 0, " + end + ")", Check.BAD, desk -> desk.stretch(0, 0, end));
        }
    }

    /** Promise 14: IllegalArgumentException when people is not 0 .. 15. */
    private static void slotOfPeople() {
        equal("slot of nobody", 1440, Bounds::used, desk -> desk.slot(0, 1440, LAST, 60));
        equal("slot of all", 1500, Bounds::used, desk -> desk.slot(15, 1440, LAST, 60));
        for (int people : Bounds.outside(0, 15)) {
            Bounds.refused("slot(" + people + ", ..)", Bounds.ILLEGAL_ARGUMENT, desk -> desk.slot(people, 0, LAST, 1));
        }
        Bounds.refused("slot of wrong people without room", Bounds.ILLEGAL_ARGUMENT, desk -> desk.slot(16, 9, 0, 1));
    }

    /** Promise 14: from or to not 0 .. 10519199. */
    private static void slotFromAndTo() {
        equal("slot from the first minute", 0, Bounds::empty, desk -> desk.slot(15, 0, 1, 1));
        equal("slot to the last minute", LAST - 1, Bounds::empty, desk -> desk.slot(15, LAST - 1, LAST, 1));
        for (int minute : Bounds.outside(0, LAST)) {
            Bounds.refused("slot from " + minute, Bounds.ILLEGAL_ARGUMENT, desk -> desk.slot(15, minute, LAST, 1));
            Bounds.refused("slot to " + minute, Bounds.ILLEGAL_ARGUMENT, desk -> desk.slot(15, 0, minute, 1));
        }
    }

    /** Promise 14: or length not 1 .. 1440. */
    private static void slotOfLengths() {
        equal("slot of one minute", 1500, Bounds::used, desk -> desk.slot(1, 1440, 1501, 1));
        equal("slot of a day", 4380, Bounds::used, desk -> desk.slot(2, 3000, LAST, 1440));
        for (int length : Bounds.outside(1, 1440)) {
            Bounds.refused("slot of " + length, Bounds.ILLEGAL_ARGUMENT, desk -> desk.slot(15, 0, LAST, length));
            Bounds.refused("slot of " + length + " without room", Bounds.ILLEGAL_ARGUMENT,
                    desk -> desk.slot(15, LAST, 0, length));
        }
    }

    /** Promise 14: not below from and not above to - length; NoSuchElementException when there is none. */
    private static void slotWithNoRoom() {
        equal("just enough room", 5, Bounds::empty, desk -> desk.slot(15, 5, 1445, 1440));
        equal("just enough room behind", 1500, Bounds::used, desk -> desk.slot(1, 1440, 1600, 100));
        equal("just enough room before", 1430, Bounds::used, desk -> desk.slot(1, 1430, 1440, 10));
        Bounds.refused("a minute too few", Bounds.NO_SUCH_ELEMENT, desk -> desk.slot(15, 5, 1444, 1440));
        Bounds.refused("no minute", Bounds.NO_SUCH_ELEMENT, desk -> desk.slot(0, LAST, LAST, 1));
        Bounds.refused("to before from", Bounds.NO_SUCH_ELEMENT, desk -> desk.slot(0, LAST, 0, 1440));
        Bounds.refused("to less than length", Bounds.NO_SUCH_ELEMENT, desk -> desk.slot(0, 0, 1439, 1440));
        Bounds.refused("nothing to", Bounds.NO_SUCH_ELEMENT, desk -> desk.slot(0, 0, 0, 1));
        Bounds.refused("a minute too few behind", Bounds.NO_SUCH_ELEMENT, Bounds::used,
                desk -> desk.slot(1, 1440, 1599, 100));
        Bounds.refused("a minute too few before", Bounds.NO_SUCH_ELEMENT, Bounds::used,
                desk -> desk.slot(1, 1431, 1440, 10));
        Bounds.refused("busy all the time", Bounds.NO_SUCH_ELEMENT, Bounds::used,
                desk -> desk.slot(1, 1440, 1500, 1));
        Bounds.refused("busy at the only minute", Bounds.NO_SUCH_ELEMENT, Bounds::used,
                desk -> desk.slot(1, 1440, 1441, 1));
        Bounds.refused("busy at the last one of a length", Bounds.NO_SUCH_ELEMENT, Bounds::used,
                desk -> desk.slot(1, 1, 1441, 1440));
        equal("free up to the first busy one", 0, Bounds::used, desk -> desk.slot(1, 0, 1440, 1440));
    }

    /** Promise 14: none of some people is busy: those p for which 2^p is in people. */
    private static void slotOfPeopleInTurn() {
        // Each one begins when the next higher one ends, so that every round of looking finds one of them.
        Bounds.Made turns = () -> {
            RecurrenceDesk desk = new RecurrenceDesk();
            for (int person = 0; person < 4; person++) {
                Check.book(desk, person, "DTSTART:20000101T0" + (3 - person) + "00", "DURATION:PT60M");
            }
            return desk;
        };
        for (int people = 0; people < 16; people++) {
            int some = people;
            int free = 0;
            while ((people << free & 8) != 0) {
                free++;
            }
            int want = 60 * free;
            equal("slot of " + some, want, turns, desk -> desk.slot(some, 0, want + 60, 60));
            Bounds.refused("slot of " + some + ", a minute too few", Bounds.NO_SUCH_ELEMENT, turns,
                    desk -> desk.slot(some, 0, want, 1));
            Bounds.refused("slot of " + some + " and of nobody", Bounds.ILLEGAL_ARGUMENT, turns,
                    desk -> desk.slot(some + 16, 0, LAST, 1));
        }
        equal("slot behind all", 240, turns, desk -> desk.slot(15, 0, LAST, 1440));
        equal("slot before all", 0, turns, desk -> desk.slot(7, 0, 60, 60));
        equal("too long to be before all", 240, turns, desk -> desk.slot(7, 0, LAST, 61));
    }
}
