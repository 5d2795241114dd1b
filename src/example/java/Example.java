/** Books a meeting in a zone whose clocks change, and asks when its guest is busy and free. */
public final class Example {
    private static final int NINE_ON_WEDNESDAY = 81 * 1440 + 9 * 60;

    public static void main(String[] args) {
        RecurrenceDesk desk = new RecurrenceDesk();
        // Summer time in zone 0: from the 26th of March 2000, 01:00, on its clocks are an hour ahead.
        desk.change(0, 85 * 1440 + 60, 60);

        type(desk, "DTSTART;TZID=0:20000322T0900\n");
        type(desk, "DURATION:PT30M\n");
        type(desk, "RRULE:FREQ=WEEKLY;BYDAY=MO,WE;COUNT=4\n");
        type(desk, "EXDATE:20000329T0900\n");
        System.out.println("instances: " + desk.book(2));
        for (int i = 0; i < desk.instances(2, 0); i++) {
            int minute = desk.instance(2, 0, i);
            System.out.println("  day " + minute / 1440 + ", hour " + minute % 1440 / 60);
        }

        System.out.println("busy at nine: " + desk.busy(2, NINE_ON_WEDNESDAY));
        int behind = desk.stretch(2, 0, 1) - NINE_ON_WEDNESDAY;
        System.out.println("minutes until the first stretch ends: " + behind);
        int free = desk.slot(1 << 2, NINE_ON_WEDNESDAY, NINE_ON_WEDNESDAY + 600, 60) - NINE_ON_WEDNESDAY;
        System.out.println("minutes until an hour is free: " + free);

        System.out.println("no person 4: " + (desk.events(4) == RecurrenceDesk.BAD));
        try {
            desk.book(2);
        } catch (IllegalArgumentException e) {
            System.out.println("an empty text is no event");
        }
    }

    /** Eight characters a call, as an object is used for at most 512 calls; the first one is the highest byte. */
    private static void type(RecurrenceDesk desk, String text) {
        for (int i = 0; i < text.length(); i += 8) {
            String piece = text.substring(i, Math.min(i + 8, text.length()));
            long characters = 0;
            for (char character : piece.toCharArray()) {
                characters = characters << 8 | character;
            }
            desk.type(characters, piece.length());
        }
    }
}
