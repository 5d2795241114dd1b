/** Promises 2 (change) and 10 (world). */
final class ZoneTest {
    public static void main(String[] args) {
        changeCounts();
        changeRefusesWrongArguments();
        changeRefusesANinthOne();
        worldRefusesWrongArguments();
        clocksGoForward();
        clocksGoBack();
        leftOutMinutesComeAgain();
        manyChangesLeaveOutAMinute();
        lastMinutes();
        Check.finish();
    }

    private static void change(RecurrenceDesk desk, int zone, int minute, int offset, Object want) {
        Check.equal("change(" + zone + ", " + minute + ", " + offset + ")", want,
                () -> desk.change(zone, minute, offset));
    }

    private static void world(RecurrenceDesk desk, int zone, int minute, int want) {
        Check.equal("world(" + zone + ", " + minute + ")", want, () -> desk.world(zone, minute));
    }

    private static void changeCounts() {
        RecurrenceDesk desk = new RecurrenceDesk();
        change(desk, 0, 0, -840, 1);
        change(desk, 0, 1, 840, 2);
        change(desk, 2, 5, 0, 1);
        change(desk, 0, Check.LAST_MINUTE, 0, 3);
        change(desk, 1, Check.LAST_MINUTE, 1, 1);
    }

    private static void changeRefusesWrongArguments() {
        RecurrenceDesk desk = new RecurrenceDesk();
        String refused = "throws.IllegalArgumentException";
        change(desk, -1, 0, 0, refused);
        change(desk, 3, 0, 0, refused);
        change(desk, Integer.MIN_VALUE, 0, 0, refused);
        change(desk, 0, -1, 0, refused);
        change(desk, 0, Check.LAST_MINUTE + 1, 0, refused);
        change(desk, 0, 0, -841, refused);
        change(desk, 0, 0, 841, refused);
        change(desk, 0, 0, Integer.MIN_VALUE, refused);
        change(desk, 0, 100, 10, 1);
        change(desk, 0, 100, 20, refused);
        change(desk, 0, 99, 20, refused);
        world(desk, 0, 110, 100);
        change(desk, 1, 99, 20, 1);
        change(desk, 0, 101, 20, 2);
    }

    private static void changeRefusesANinthOne() {
        RecurrenceDesk desk = new RecurrenceDesk();
        for (int i = 1; i <= 8; i++) {
            change(desk, 1, 10 * i, i, i);
        }
        change(desk, 1, 1000, 0, "throws.IllegalStateException");
        change(desk, 1, 80, 0, "throws.IllegalArgumentException");
        change(desk, 1, 1000, 841, "throws.IllegalArgumentException");
        change(desk, 3, 1000, 0, "throws.IllegalArgumentException");
        world(desk, 1, 2000, 1992);
        change(desk, 0, 5, 0, 1);
    }

    private static void worldRefusesWrongArguments() {
        RecurrenceDesk desk = new RecurrenceDesk();
        world(desk, -1, 0, Check.BAD);
        world(desk, 3, 0, Check.BAD);
        world(desk, 0, -1, Check.BAD);
        world(desk, 0, Check.LAST_MINUTE + 1, Check.BAD);
        world(desk, 2, Check.LAST_MINUTE, Check.LAST_MINUTE);
    }

    private static void clocksGoForward() {
        RecurrenceDesk desk = new RecurrenceDesk();
        change(desk, 0, 1000, 60, 1);
        change(desk, 0, 3000, 90, 2);
        world(desk, 0, 999, 999);
        world(desk, 0, 1000, 1000);
        world(desk, 0, 1059, 1059);
        world(desk, 0, 1060, 1000);
        world(desk, 0, 3059, 2999);
        world(desk, 0, 3060, 3000);
        world(desk, 0, 3089, 3029);
        world(desk, 0, 3090, 3000);
    }

    private static void clocksGoBack() {
        RecurrenceDesk desk = new RecurrenceDesk();
        change(desk, 0, 1000, -60, 1);
        world(desk, 0, 939, 939);
        world(desk, 0, 940, 940);
        world(desk, 0, 999, 999);
        world(desk, 0, 1000, 1060);
        change(desk, 1, 0, -60, 1);
        world(desk, 1, 0, 60);
    }

    private static void leftOutMinutesComeAgain() {
        RecurrenceDesk desk = new RecurrenceDesk();
        change(desk, 0, 1000, 100, 1);
        change(desk, 0, 1010, 20, 2);
        world(desk, 0, 1029, 1029);
        world(desk, 0, 1030, 1010);
        world(desk, 0, 1099, 1079);
        world(desk, 0, 1100, 1000);
        world(desk, 0, 1109, 1009);
        world(desk, 0, 1110, 1090);
    }

    /** A minute that two changes leave out goes by the first one. */
    private static void manyChangesLeaveOutAMinute() {
        RecurrenceDesk desk = new RecurrenceDesk();
        change(desk, 0, 1000, 100, 1);
        change(desk, 0, 1001, 0, 2);
        change(desk, 0, 1002, 200, 3);
        world(desk, 0, 1000, 1000);
        world(desk, 0, 1001, 1001);
        world(desk, 0, 1002, 1002);
        world(desk, 0, 1050, 1050);
        world(desk, 0, 1100, 1000);
        world(desk, 0, 1101, 1101);
        change(desk, 1, 1000, 10, 1);
        change(desk, 1, 1005, 30, 2);
        world(desk, 1, 1009, 1009);
        world(desk, 1, 1014, 1004);
        world(desk, 1, 1015, 1005);
        world(desk, 1, 1034, 1024);
        world(desk, 1, 1035, 1005);
        change(desk, 2, 1000, 800, 1);
        change(desk, 2, 1001, -800, 2);
        change(desk, 2, 1002, 800, 3);
        world(desk, 2, 1500, 1500);
        world(desk, 2, 500, 500);
        world(desk, 2, 1801, 2601);
        world(desk, 2, 1802, 1002);
        RecurrenceDesk other = new RecurrenceDesk();
        change(other, 0, 1000, 100, 1);
        change(other, 0, 1010, -50, 2);
        change(other, 0, 1020, 300, 3);
        world(other, 0, 969, 969);
        world(other, 0, 999, 999);
        world(other, 0, 1050, 1050);
        world(other, 0, 1099, 1099);
        world(other, 0, 1109, 1009);
        world(other, 0, 1110, 1160);
        world(other, 0, 1319, 1369);
        world(other, 0, 1320, 1020);
    }

    private static void lastMinutes() {
        RecurrenceDesk desk = new RecurrenceDesk();
        change(desk, 0, 0, -840, 1);
        world(desk, 0, Check.LAST_MINUTE, Check.LAST_MINUTE + 840);
        change(desk, 1, Check.LAST_MINUTE, 840, 1);
        world(desk, 1, Check.LAST_MINUTE, Check.LAST_MINUTE);
    }
}
