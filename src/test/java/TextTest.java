/** Promises 3 (type) and 4 (wipe). */
final class TextTest {
    public static void main(String[] args) {
        typeCounts();
        typeRefusesWrongCounts();
        typeRefusesOtherCharacters();
        typeRefusesTooMany();
        onlyTheLowestBytesCount();
        highestByteComesFirst();
        wipeEmpties();
        Check.finish();
    }

    private static void type(RecurrenceDesk desk, long characters, int n, int want) {
        Check.equal("type(" + characters + ", " + n + ")", want, () -> desk.type(characters, n));
    }

    private static void typeCounts() {
        RecurrenceDesk desk = new RecurrenceDesk();
        int size = 0;
        for (int n = 1; n <= 8; n++) {
            size += n;
            type(desk, Check.packed("ABCDEFGH"), n, size);
        }
        Check.equal("wipe()", 36, desk::wipe);
    }

    private static void typeRefusesWrongCounts() {
        RecurrenceDesk desk = new RecurrenceDesk();
        for (int n : new int[] {0, -1, 9, 264, Integer.MIN_VALUE, Integer.MAX_VALUE}) {
            type(desk, Check.packed("ABCDEFGH"), n, Check.BAD);
        }
        Check.equal("wipe()", 0, desk::wipe);
    }

    private static void typeRefusesOtherCharacters() {
        RecurrenceDesk desk = new RecurrenceDesk();
        int size = 0;
        for (int c = 0; c < 256; c++) {
            boolean good = c == 10 || c >= 32 && c <= 126;
            size += good ? 1 : 0;
            type(desk, c, 1, good ? size : Check.BAD);
        }
        Check.equal("wipe()", 96, desk::wipe);
        type(desk, Check.packed("AB\tD"), 4, Check.BAD);
        type(desk, Check.packed("ABC\n"), 4, 4);
        type(desk, Check.packed("\u00ffBCDEFGH"), 8, Check.BAD);
        type(desk, -1L, 8, Check.BAD);
        type(desk, 0L, 8, Check.BAD);
        Check.equal("wipe()", 4, desk::wipe);
    }

    private static void typeRefusesTooMany() {
        RecurrenceDesk desk = new RecurrenceDesk();
        for (int i = 1; i <= 29; i++) {
            type(desk, Check.packed("        "), 8, 8 * i);
        }
        type(desk, Check.packed("1234567"), 7, 239);
        type(desk, Check.packed("12"), 2, Check.BAD);
        type(desk, Check.packed("1"), 1, 240);
        type(desk, Check.packed("1"), 1, Check.BAD);
        Check.equal("wipe()", 240, desk::wipe);
        type(desk, Check.packed("1"), 1, 1);
    }

    private static void onlyTheLowestBytesCount() {
        RecurrenceDesk desk = new RecurrenceDesk();
        type(desk, 0xff00ff0000000041L, 1, 1);
        type(desk, 0xffffffffffff4142L, 2, 3);
    }

    private static void highestByteComesFirst() {
        RecurrenceDesk desk = new RecurrenceDesk();
        String text = Check.text("DTSTART:20000101T0001", "DURATION:PT5M");
        for (int at = 0, n = 1; at < text.length(); at += n, n = n % 8 + 1) {
            String piece = text.substring(at, Math.min(at + n, text.length()));
            desk.type(Check.packed(piece), piece.length());
        }
        Check.equal("book(0)", 1, () -> desk.book(0));
        Check.equal("instance(0, 0, 0)", 1, () -> desk.instance(0, 0, 0));
    }

    private static void wipeEmpties() {
        RecurrenceDesk desk = new RecurrenceDesk();
        Check.type(desk, "no event");
        Check.equal("wipe()", 8, desk::wipe);
        Check.equal("wipe()", 0, desk::wipe);
        Check.equal("book", 1, () -> Check.book(desk, 0, "DTSTART:20000101T0000", "DURATION:PT5M"));
        Check.equal("wipe() behind book", 0, desk::wipe);
    }
}
