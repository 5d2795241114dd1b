/** Promise 5 (book): which texts are events, and what throws when. */
final class BookTest {
    private static final String START = "DTSTART:20000101T0930";
    private static final String LENGTH = "DURATION:PT60M";

    public static void main(String[] args) {
        throwsInOrder();
        refusedTextStays();
        linesAndTheirOrder();
        times();
        durations();
        zones();
        ruleParts();
        ruleNumbers();
        ruleLists();
        partsThatDoNotAgree();
        timeLines();
        unfolding();
        earlierTextsLeaveNothing();
        fullTexts();
        Check.finish();
    }

    private static void rule(String rule) {
        Check.event(Check.text(START, LENGTH, "RRULE:" + rule));
    }

    private static void noRule(String rule) {
        Check.noEvent(Check.text(START, LENGTH, "RRULE:" + rule));
    }

    private static void throwsInOrder() {
        RecurrenceDesk desk = new RecurrenceDesk();
        for (int i = 0; i < 4; i++) {
            Check.equal("book(3)", 1, () -> Check.book(desk, 3, START, LENGTH));
        }
        Check.refused("book(3) of no event", IllegalArgumentException.class, () -> desk.book(3));
        Check.type(desk, Check.text(START, LENGTH));
        Check.refused("book(4)", IllegalArgumentException.class, () -> desk.book(4));
        Check.refused("book(-1)", IllegalArgumentException.class, () -> desk.book(-1));
        Check.refused("a fifth event", IllegalStateException.class, () -> desk.book(3));
        Check.equal("events(3)", 4, () -> desk.events(3));
        Check.equal("book(2)", 1, () -> desk.book(2));
    }

    private static void refusedTextStays() {
        RecurrenceDesk desk = new RecurrenceDesk();
        Check.type(desk, START + "\n" + LENGTH);
        Check.refused("book without its last line end", IllegalArgumentException.class, () -> desk.book(0));
        desk.type('\n', 1);
        Check.equal("book with it", 1, () -> desk.book(0));
        Check.refused("book again", IllegalArgumentException.class, () -> desk.book(0));
    }

    private static void linesAndTheirOrder() {
        Check.event(Check.text(START, LENGTH));
        Check.event(Check.text(START, LENGTH, "RRULE:FREQ=DAILY", "EXDATE:20000101T0930"));
        Check.event(Check.text(START, LENGTH, "EXDATE:20000101T0930"));
        Check.noEvent("");
        Check.noEvent("\n");
        Check.noEvent(START + "\n");
        Check.noEvent(Check.text(LENGTH, START));
        Check.noEvent(Check.text(LENGTH));
        Check.noEvent(Check.text(START, "RRULE:FREQ=DAILY", LENGTH));
        Check.noEvent(Check.text(START, LENGTH, "EXDATE:20000101T0930", "RRULE:FREQ=DAILY"));
        Check.noEvent(Check.text(START, LENGTH, "RRULE:FREQ=DAILY", "RRULE:FREQ=DAILY"));
        Check.noEvent(Check.text(START, START, LENGTH));
        Check.noEvent(Check.text(START, LENGTH, LENGTH));
        Check.noEvent(Check.text(START, LENGTH, ""));
        Check.noEvent(Check.text("", START, LENGTH));
        Check.noEvent(Check.text(START, "", LENGTH));
        Check.noEvent(Check.text(START, LENGTH) + "x");
        Check.noEvent(Check.text(START + " ", LENGTH));
        Check.noEvent(Check.text(START, LENGTH + " "));
        Check.noEvent(Check.text("dtstart:20000101T0930", LENGTH));
        Check.noEvent(Check.text("DTSTART 20000101T0930", LENGTH));
    }

    private static void times() {
        for (String time : new String[] {"20000101T0000", "20191231T2359", "20000229T1200", "20160229T1200",
                "20040630T0959"}) {
            Check.event(Check.text("DTSTART:" + time, LENGTH));
        }
        for (String time : new String[] {"19991231T0000", "20200101T0000", "20010229T0000", "20000230T0000",
                "20000431T0000", "20000001T0000", "20001301T0000", "20000100T0000", "20000132T0000",
                "20000101T2400", "20000101T0060", "20000101T000", "20000101T00000", "2000101T0000",
                "20000101t0000", "200001010000", "20000101T00:00", "20000101T0000Z", "2000-1-1T0000",
                "20000101T-100", "2000010:T0000", "20000101T1/00", "", "T0000", "20000101T"}) {
            Check.noEvent(Check.text("DTSTART:" + time, LENGTH));
            Check.noEvent(Check.text(START, LENGTH, "RDATE:" + time));
            Check.noEvent(Check.text(START, LENGTH, "RRULE:FREQ=DAILY;UNTIL=" + time));
        }
    }

    private static void durations() {
        for (String n : new String[] {"1", "9", "10", "999", "1440"}) {
            Check.event(Check.text(START, "DURATION:PT" + n + "M"));
        }
        for (String n : new String[] {"0", "01", "1441", "14400", "99999999999", "4294967297", "-1", "+1", "",
                "1.5", " 1", "1 "}) {
            Check.noEvent(Check.text(START, "DURATION:PT" + n + "M"));
        }
        Check.noEvent(Check.text(START, "DURATION:PT60"));
        Check.noEvent(Check.text(START, "DURATION:PT1H"));
        Check.noEvent(Check.text(START, "DURATION:60M"));
        Check.noEvent(Check.text(START, "DURATION:PT60MM"));
    }

    private static void zones() {
        for (int z = 0; z < 3; z++) {
            Check.event(Check.text("DTSTART;TZID=" + z + ":20000101T0930", LENGTH));
        }
        for (String head : new String[] {"DTSTART;TZID=3:", "DTSTART;TZID=-1:", "DTSTART;TZID=00:", "DTSTART;TZID=:",
                "DTSTART;TZID=1", "DTSTART;:", "DTSTART;TZID=1;TZID=1:", "DTSTART;", "DTSTART", "DTSTART::"}) {
            Check.noEvent(Check.text(head + "20000101T0930", LENGTH));
        }
    }

    private static void ruleParts() {
        rule("FREQ=DAILY");
        rule("FREQ=WEEKLY");
        rule("FREQ=MONTHLY");
        rule("FREQ=YEARLY");
        rule("FREQ=DAILY;INTERVAL=2;COUNT=3;BYMONTH=1;BYMONTHDAY=1;BYDAY=MO;BYSETPOS=1;WKST=SU");
        rule("FREQ=DAILY;WKST=SU;BYSETPOS=1;BYDAY=MO;BYMONTHDAY=1;BYMONTH=1;UNTIL=20000101T0000;INTERVAL=2");
        for (String wrong : new String[] {"", "FREQ=", "FREQ=HOURLY", "FREQ=DAIL", "FREQ=DAILYS", "freq=DAILY",
                "INTERVAL=2;FREQ=DAILY", "INTERVAL=2", "FREQ=DAILY;", "FREQ=DAILY;;COUNT=1", "FREQ=DAILY;COUNT",
                "FREQ=DAILY;COUNT=", "FREQ=DAILY;COUNT=1;", "FREQ=DAILY,COUNT=1", "FREQ=DAILY;FREQ=DAILY",
                "FREQ=DAILY;BYHOUR=1", "FREQ=DAILY;2", "FREQ=DAILY;MO", "FREQ=DAILY;BYWEEKNO=1", "FREQ=DAILY;BYYEARDAY=1", ";FREQ=DAILY"}) {
            noRule(wrong);
        }
        for (String twice : new String[] {"INTERVAL=1", "COUNT=1", "UNTIL=20000101T0000", "BYMONTH=1", "BYMONTHDAY=1",
                "BYDAY=MO", "BYDAY=MO;BYSETPOS=1;BYSETPOS=1", "WKST=MO"}) {
            rule("FREQ=DAILY;" + twice.replace(";BYSETPOS=1;BYSETPOS=1", ";BYSETPOS=1"));
            noRule("FREQ=DAILY;" + twice + ";" + twice.replace("BYDAY=MO;BYSETPOS=1;", ""));
        }
        noRule("FREQ=DAILY;INTERVAL=1;COUNT=1;BYMONTH=1;BYMONTHDAY=1;BYDAY=MO;BYSETPOS=1;WKST=MO;COUNT=1");
    }

    private static void ruleNumbers() {
        for (String part : new String[] {"INTERVAL=", "COUNT="}) {
            for (String good : new String[] {"1", "9", "10", "99"}) {
                rule("FREQ=DAILY;" + part + good);
            }
            for (String wrong : new String[] {"0", "100", "01", "-1", "+1", "1,2", "1,", "", "A", "4294967297"}) {
                noRule("FREQ=DAILY;" + part + wrong);
            }
        }
        for (String weekday : new String[] {"MO", "TU", "WE", "TH", "FR", "SA", "SU"}) {
            rule("FREQ=WEEKLY;WKST=" + weekday);
            rule("FREQ=WEEKLY;BYDAY=" + weekday);
        }
        for (String wrong : new String[] {"", "M", "MON", "mo", "1MO", "-1MO", "MO,TU", "1", "OT"}) {
            noRule("FREQ=MONTHLY;WKST=" + wrong);
        }
    }

    private static void ruleLists() {
        String[][] lists = {
            {"BYMONTH=", "1", "9", "10", "12", "1,1,1,1,1,1,1,1"},
            {"BYMONTHDAY=", "1", "31", "-1", "-31", "-9,9", "1,2,3,4,5,6,7,8"},
            {"BYDAY=", "MO", "1MO", "53SU", "-1FR", "-53SA", "TU,-2WE,3TH", "MO,MO,MO,MO,MO,MO,MO,MO"},
            {"BYDAY=MO;BYSETPOS=", "1", "99", "-1", "-99", "1,-1", "1,2,3,4,5,6,7,8"}};
        for (String[] list : lists) {
            for (int i = 1; i < list.length; i++) {
                rule("FREQ=MONTHLY;" + list[0] + list[i]);
            }
            String eight = list[list.length - 1];
            noRule("FREQ=MONTHLY;" + list[0] + eight + "," + list[1]);
            noRule("FREQ=MONTHLY;" + list[0] + eight + ",");
            noRule("FREQ=MONTHLY;" + list[0] + eight + ",;INTERVAL=2");
            for (String wrong : new String[] {"", ",", "1,", ",1", "MO,", ",MO", "0", "-0", "00", "01", "-01", "+1",
                    "100", "-100", "1,,2", "MO,,TU", "--1", "-", "1 ", "1-", "1M", "XX", "0MO", "-0MO", "01MO", "+1MO",
                    "54MO", "-54MO", "-MO", "1-MO", "--1MO", "MO1", "mo", "1,0", "MO,0TU"}) {
                noRule("FREQ=MONTHLY;" + list[0] + wrong);
            }
        }
        noRule("FREQ=MONTHLY;BYMONTH=13");
        noRule("FREQ=MONTHLY;BYMONTH=-1");
        noRule("FREQ=MONTHLY;BYMONTHDAY=32");
        noRule("FREQ=MONTHLY;BYMONTHDAY=-32");
        noRule("FREQ=MONTHLY;BYDAY=1");
        noRule("FREQ=MONTHLY;BYMONTHDAY=1MO");
    }

    private static void partsThatDoNotAgree() {
        noRule("FREQ=DAILY;COUNT=1;UNTIL=20000101T0930");
        noRule("FREQ=DAILY;UNTIL=20000101T0930;COUNT=1");
        noRule("FREQ=WEEKLY;BYMONTHDAY=1");
        rule("FREQ=WEEKLY;BYMONTH=1");
        for (String frequency : new String[] {"DAILY", "WEEKLY"}) {
            noRule("FREQ=" + frequency + ";BYDAY=1MO");
            noRule("FREQ=" + frequency + ";BYDAY=MO,-1TU");
        }
        for (String frequency : new String[] {"DAILY", "WEEKLY", "MONTHLY", "YEARLY"}) {
            noRule("FREQ=" + frequency + ";BYSETPOS=1");
            noRule("FREQ=" + frequency + ";BYSETPOS=1;INTERVAL=2;COUNT=3;WKST=MO");
            rule("FREQ=" + frequency + ";BYSETPOS=1;BYMONTH=1");
            rule("FREQ=" + frequency + ";BYSETPOS=1;BYDAY=MO");
        }
        rule("FREQ=DAILY;BYSETPOS=1;BYMONTHDAY=1");
        rule("FREQ=YEARLY;BYDAY=1MO;BYMONTHDAY=1");
    }

    private static void timeLines() {
        String time = "20000101T0930";
        String six = String.join(",", time, time, time, time, time, time);
        Check.event(Check.text(START, LENGTH, "RDATE:" + six));
        Check.event(Check.text(START, LENGTH, "EXDATE:" + six));
        Check.noEvent(Check.text(START, LENGTH, "RDATE:" + six + "," + time));
        Check.noEvent(Check.text(START, LENGTH, "EXDATE:" + six + "," + time));
        Check.event(Check.text(START, LENGTH, "RDATE:" + time, "EXDATE:" + time, "RDATE:" + time));
        Check.event(Check.text(START, LENGTH, "EXDATE:" + time, "EXDATE:" + time, "EXDATE:" + time));
        Check.noEvent(Check.text(START, LENGTH, "RDATE:" + time, "EXDATE:" + time, "RDATE:" + time, "EXDATE:" + time));
        Check.noEvent(Check.text(START, LENGTH, "RDATE:" + six + ","));
        Check.noEvent(Check.text(START, LENGTH, "RDATE:" + six + ",EXDATE:" + time));
        Check.noEvent(Check.text(START, LENGTH, "RDATE:"));
        Check.noEvent(Check.text(START, LENGTH, "EXDATE:"));
        Check.noEvent(Check.text(START, LENGTH, "RDATE:" + time + ","));
        Check.noEvent(Check.text(START, LENGTH, "RDATE:," + time));
        Check.noEvent(Check.text(START, LENGTH, "RDATE:" + time + ";" + time));
        Check.noEvent(Check.text(START, LENGTH, "XDATE:" + time));
        Check.noEvent(Check.text(START, LENGTH, "RDATE:" + time, LENGTH));
    }

    private static void unfolding() {
        String text = Check.text(START, LENGTH, "RRULE:FREQ=DAILY;COUNT=2");
        for (int i = 0; i <= text.length(); i++) {
            Check.event(text.substring(0, i) + "\n " + text.substring(i));
            Check.noEvent(text.substring(0, i) + "\n" + text.substring(i));
            Check.noEvent(text.substring(0, i) + " " + text.substring(i));
        }
        Check.event(text.replace("DURATION", "DUR\n \n \n ATION"));
        Check.noEvent(text.replace("DURATION", "DUR\n  ATION"));
        Check.noEvent(text.replace("DURATION", "DUR\n\n  ATION"));
        Check.noEvent(text.replace("DURATION", "DUR\n\n ATION"));
        Check.noEvent(text.replace("\nDURATION", "\n DURATION"));
        Check.noEvent(START + "\n" + LENGTH + "\n ");
        Check.equal("a folded number", 12, () -> {
            RecurrenceDesk desk = new RecurrenceDesk();
            return Check.book(desk, 0, START, LENGTH, "RRULE:FREQ=DAILY;COUNT=1\n 2");
        });
    }

    /** A text is read to its own end, whatever longer text was booked before it. */
    private static void earlierTextsLeaveNothing() {
        String text = Check.text(START, LENGTH, "RRULE:FREQ=MONTHLY;COUNT=12;BYDAY=MO;WKST=SU", "EXDATE:20000102T0930");
        for (int i = 1; i < text.length(); i++) {
            String part = text.substring(0, i);
            if (part.endsWith("\n")) {
                continue;
            }
            RecurrenceDesk desk = new RecurrenceDesk();
            Check.type(desk, text);
            desk.book(0);
            Check.type(desk, part);
            Check.refused("no event: " + part, IllegalArgumentException.class, () -> desk.book(0));
        }
        RecurrenceDesk desk = new RecurrenceDesk();
        Check.type(desk, Check.text(START, LENGTH) + " ");
        desk.wipe();
        Check.equal("a blank that is wiped", 1, () -> Check.book(desk, 0, START, LENGTH));
    }

    /** Texts that end with the last character there is room for, wherever that may fall in a rule. */
    private static void fullTexts() {
        String[] parts = {";BYDAY=-53MO,-53TU,-53WE,-53TH,-53FR,-53SA,-53SU,-53MO", ";WKST=MO", ";INTERVAL=99",
            ";BYSETPOS=-99,-99,-99,-99,-99,-99,-99,-99", ";UNTIL=20000101T0930", ";BYMONTH=12,12,12,12,12,12,12,12"};
        int full = 0;
        for (int first = 0; first < parts.length; first++) {
            for (int more = 0; more <= 16; more++) {
                StringBuilder rule = new StringBuilder("RRULE:FREQ=MONTHLY;BYMONTHDAY=").append(monthDays(more));
                for (int i = 0; i < parts.length; i++) {
                    rule.append(parts[(first + i) % parts.length]);
                }
                String text = Check.text(START, LENGTH, rule.toString());
                Check.noEvent(text.substring(0, 240));
                String fewer = Check.text(START, LENGTH, rule.toString().replace(parts[1] + parts[2], ""));
                if (fewer.length() == 240) {
                    full++;
                    Check.event(fewer);
                }
            }
        }
        int found = full;
        Check.equal("a full text was tried", true, () -> found > 0);
    }

    /** Eight days of a month, with up to 16 characters more than they need. */
    private static String monthDays(int more) {
        StringBuilder days = new StringBuilder();
        for (int i = 0; i < 8; i++) {
            days.append(i > 0 ? "," : "").append(more > i + 8 ? "-" : "").append(more > i ? "11" : "1");
        }
        return days.toString();
    }
}
