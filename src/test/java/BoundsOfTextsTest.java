import java.util.ArrayList;
import java.util.Collections;
import java.util.List;

/** The boundaries of what is an event: texts, lines, times, numbers and rules, a test for each sentence. */
final class BoundsOfTextsTest {
    private static final String START = "DTSTART:20000101T0930";
    private static final String LENGTH = "DURATION:PT60M";
    private static final String TIME = "20000101T0930";
    private static final String[] FREQUENCIES = {"DAILY", "WEEKLY", "MONTHLY", "YEARLY"};
    private static final String[] WEEKDAYS = {"MO", "TU", "WE", "TH", "FR", "SA", "SU"};

    public static void main(String[] args) {
        fullTexts();
        everyCharacterInsteadOfEach();
        linesAreUnfolded();
        foldsAtTheEnds();
        eachLineHasItsEnd();
        textsCutAnywhere();
        wrongPiecesAreNotPassedOver();
        linesInTheirOrder();
        zones();
        durations();
        ruleMayBeMissing();
        upToThreeLines();
        years();
        hoursAndMinutes();
        digitsOfATime();
        oneToSixTimes();
        frequencies();
        partsInAnyOrder();
        partsAtMostOnce();
        intervalsAndCounts();
        untils();
        months();
        monthDays();
        weekdays();
        positions();
        weekStarts();
        oneToEight();
        countAndUntilApart();
        monthDaysNotWeekly();
        numberedWeekdays();
        positionsNotAlone();
        Check.finish();
    }

    private static void event(String text, boolean good) {
        if (good) {
            Check.event(text);
        } else {
            Check.noEvent(text);
        }
    }

    private static String ruled(String rule) {
        return Check.text(START, LENGTH, "RRULE:" + rule);
    }

    private static void rule(String rule) {
        Check.event(ruled(rule));
    }

    private static void noRule(String rule) {
        Check.noEvent(ruled(rule));
    }

    /** A number from 1 to most, without zeros in front; no sign but, where it may stand, a minus. */
    private static void number(String before, String behind, int most, boolean signed) {
        for (String good : new String[] {"1", "" + most}) {
            Check.event(before + good + behind);
        }
        for (String wrong : new String[] {"", "0", "" + (most + 1), "01", "0" + most, "00", "+1", " 1", "1 ", "1.0",
                "1" + most, most + "0", "4294967297", "18446744073709551617", "0x1", "-", "--1", "-0", "-01", "1-"}) {
            Check.noEvent(before + wrong + behind);
        }
        for (String below : new String[] {"-1", "-" + most}) {
            event(before + below + behind, signed);
        }
        Check.noEvent(before + "-" + (most + 1) + behind);
        Check.noEvent(before + "-4294967295" + behind);
    }

    /** One to so many, with commas between. */
    private static void list(String before, String item, String behind, int most) {
        Check.noEvent(before + behind);
        for (int n = 1; n <= most; n++) {
            Check.event(before + items(item, n) + behind);
        }
        Check.noEvent(before + items(item, most + 1) + behind);
        for (int n = 1; n <= most; n++) {
            Check.noEvent(before + "," + items(item, n) + behind);
            Check.noEvent(before + items(item, n) + "," + behind);
            Check.noEvent(before + items(item, n) + ";" + item + behind);
        }
        Check.noEvent(before + item + ",," + item + behind);
        Check.noEvent(before + item + ", " + item + behind);
        Check.noEvent(before + item + item + behind);
    }

    private static String items(String item, int n) {
        return String.join(",", Collections.nCopies(n, item));
    }

    /** A TEXT is a row of at most 240 characters. */
    private static void fullTexts() {
        String text = Bounds.fullText();
        Check.equal("the length of a full text", 240, text::length);
        Check.event(text);
        Check.noEvent(text.substring(0, 239));
        Check.noEvent("\n".repeat(240));
        Check.noEvent(" ".repeat(240));
        Check.noEvent("\n ".repeat(120));
        Check.noEvent("9".repeat(240));
        Check.noEvent("DTSTART:" + "0".repeat(232));
        Check.noEvent(START + "\nDURATION:PT" + "9".repeat(205) + "M\n");
        String head = Check.text(START, LENGTH);
        for (String piece : new String[] {"RRULE:FREQ=MONTHLY;BYMONTH=", "RRULE:FREQ=MONTHLY;BYMONTHDAY=-",
            "RRULE:FREQ=MONTHLY;BYDAY=-", "RRULE:FREQ=MONTHLY;BYDAY=", "RRULE:FREQ=MONTHLY;BYMONTH=1;BYSETPOS=",
            "RDATE:2000", "EXDATE:20000101T", "RRULE:FREQ=MONTHLY;COUNT=", "RRULE:FREQ=MONTHLY;WKST=", "DURATION:PT"}) {
            // What is being read has no end before the last place of all.
            for (char filler : new char[] {'1', '-', 'M', ',', '0'}) {
                Check.noEvent(head + piece + String.valueOf(filler).repeat(240 - head.length() - piece.length()));
            }
        }
        RecurrenceDesk desk = new RecurrenceDesk();
        Check.type(desk, text);
        Check.equal("a character more", Check.BAD, () -> desk.type('\n', 1));
        Check.equal("book of what stood there", 1, () -> desk.book(0));
    }

    /** No event but by its own characters: another one anywhere makes a number another one, or no event. */
    private static void everyCharacterInsteadOfEach() {
        String text = Check.text("DTSTART;TZID=1:20190101T0000", "DURATION:PT9M", "EXDATE:20000101T0000");
        for (int at = 0; at < text.length(); at++) {
            for (char other : new char[] {10, 32, 33, 47, 48, 58, 59, 64, 90, 91, 126}) {
                String changed = text.substring(0, at) + other + text.substring(at + 1);
                Model model = new Model();
                for (int i = 0; i < changed.length(); i++) {
                    model.type(changed.charAt(i), 1);
                }
                event(changed, !(Check.answerOf(() -> model.book(0)).startsWith("throws")));
            }
        }
    }

    /** Each line end behind which a blank stands goes, together with that blank. */
    private static void linesAreUnfolded() {
        String text = ruled("FREQ=DAILY");
        for (int at = 0; at <= text.length(); at++) {
            String before = text.substring(0, at);
            String behind = text.substring(at);
            Check.event(before + "\n " + behind);
            Check.event(before + "\n \n " + behind);
            Check.noEvent(before + "\n  " + behind);
            // Behind a line end the blank makes a fold of it, and the new line end takes its place.
            event(before + " \n" + behind, before.endsWith("\n"));
            Check.noEvent(before + "\n\n " + behind);
            Check.noEvent(before + "\n\n  " + behind);
        }
    }

    /** A fold may stand before all and behind all; the last line end goes if a blank stands behind it. */
    private static void foldsAtTheEnds() {
        Check.event("\n " + Bounds.EVENT);
        Check.event(Bounds.EVENT + "\n ");
        Check.noEvent(Bounds.EVENT + " ");
        Check.noEvent(" " + Bounds.EVENT);
        Check.noEvent(Bounds.EVENT.replace("M\n", "M\n \n "));
        Check.event(Bounds.EVENT.replace("M\n", "M\n \n"));
        Check.noEvent("\n ");
    }

    /** These lines, each with a line end behind it. */
    private static void eachLineHasItsEnd() {
        String text = Check.text(START, LENGTH, "RRULE:FREQ=DAILY", "RDATE:" + TIME, "EXDATE:" + TIME);
        Check.event(text);
        for (int at = 0; at < text.length(); at++) {
            if (text.charAt(at) == '\n') {
                Check.noEvent(text.substring(0, at) + text.substring(at + 1));
                Check.noEvent(text.substring(0, at) + "\n\n" + text.substring(at + 1));
                Check.noEvent(text.substring(0, at) + "\nx\n" + text.substring(at + 1));
            }
        }
    }

    /** A text that ends too early is no event, wherever it ends, and whatever was booked before it. */
    private static void textsCutAnywhere() {
        for (String rule : new String[] {"FREQ=WEEKLY;COUNT=12;BYDAY=MO,TU;WKST=SU", "FREQ=YEARLY;BYMONTHDAY=-11,30",
            "FREQ=MONTHLY;BYDAY=-11MO;BYSETPOS=-11", "FREQ=DAILY;UNTIL=20000101T0000;BYMONTH=11,12;INTERVAL=12"}) {
            String text = Check.text("DTSTART;TZID=1:20000101T0930", LENGTH, "RRULE:" + rule, "RDATE:" + TIME,
                    "EXDATE:" + TIME + "," + TIME);
            for (int size = 0; size <= text.length(); size++) {
                String cut = text.substring(0, size);
                boolean whole = cut.endsWith("\n") && cut.contains(LENGTH);
                event(cut, whole);
                Check.equal("behind a longer one: " + cut, whole ? "" : Bounds.ILLEGAL_ARGUMENT, () -> {
                    RecurrenceDesk desk = new RecurrenceDesk();
                    Check.type(desk, text);
                    desk.book(0);
                    Check.type(desk, cut);
                    desk.book(0);
                    return "";
                });
            }
        }
    }

    /** What cannot be read ends the reading: nothing behind it makes an event of it. */
    private static void wrongPiecesAreNotPassedOver() {
        String event = Check.text(START, LENGTH);
        Check.noEvent("DTSTART" + Check.text(LENGTH));
        Check.noEvent("DTSTART:" + Check.text(LENGTH));
        Check.noEvent("DTSTART;TZID=" + Check.text(LENGTH));
        Check.noEvent("DTSTART;TZID=3" + Check.text(LENGTH));
        Check.noEvent("DTSTART;TZID=1" + Check.text(LENGTH));
        Check.noEvent("DTSTART:20000101T2400" + Check.text(LENGTH));
        Check.noEvent(Check.text(START) + "DURATION:PT");
        Check.noEvent(Check.text(START) + "DURATION:PT0");
        Check.noEvent(Check.text(START) + "DURATION:PT1441");
        Check.noEvent(Check.text(START) + "RRULE:FREQ=DAILY\n");
        Check.noEvent(event + "RRULE:");
        Check.noEvent(event + "RRULE:RDATE:" + TIME + "\n");
        Check.noEvent(event + "RRULE:FREQ=DAILY;COUNT=0");
        Check.noEvent(event + "RRULE:FREQ=DAILY;BYDAY=MORDATE:" + TIME + "\n");
        Check.noEvent(event + "RDATE:");
        Check.noEvent(event + "RDATE:20000101T2400");
        Check.noEvent(event + "RDATE:EXDATE:" + TIME + "\n");
        Check.noEvent(event + "RDATE:20000101T2400EXDATE:" + TIME + "\n");
        Check.noEvent(event + "RDATE:" + items(TIME, 6) + ",");
        Check.noEvent(event + "RDATE:" + items(TIME, 6) + ",EXDATE:" + TIME + "\n");
    }

    /** In this order. */
    private static void linesInTheirOrder() {
        List<String> lines = List.of(START, LENGTH, "RRULE:FREQ=DAILY", "RDATE:" + TIME);
        for (int one = 0; one < lines.size(); one++) {
            for (int other = 0; other < lines.size(); other++) {
                List<String> swapped = new ArrayList<>(lines);
                Collections.swap(swapped, one, other);
                String text = Check.text(swapped.toArray(new String[0]));
                event(text, one == other);
            }
            List<String> fewer = new ArrayList<>(lines);
            fewer.remove(one);
            List<String> twice = new ArrayList<>(lines);
            twice.add(one, lines.get(one));
            event(Check.text(fewer.toArray(new String[0])), !(one < 2));
            event(Check.text(twice.toArray(new String[0])), !(one < 3));
        }
    }

    /** DTSTART;TZID=z:time, z being 0, 1 or 2. */
    private static void zones() {
        for (String zone : new String[] {"0", "1", "2"}) {
            Check.event(Check.text("DTSTART;TZID=" + zone + ":" + TIME, LENGTH));
        }
        for (String zone : new String[] {"", "3", "9", "-1", "00", "01", "10", "02", "/", ":", " 1", "1 ", "+1"}) {
            Check.noEvent(Check.text("DTSTART;TZID=" + zone + ":" + TIME, LENGTH));
        }
    }

    /** DURATION:PTnM with n from 1 to 1440. */
    private static void durations() {
        number(START + "\nDURATION:PT", "M\n", 1440, false);
    }

    /** RRULE:rule (may be missing). */
    private static void ruleMayBeMissing() {
        Check.event(Check.text(START, LENGTH));
        Check.event(Check.text(START, LENGTH, "RRULE:FREQ=DAILY"));
        Check.noEvent(Check.text(START, LENGTH, "RRULE:"));
        Check.noEvent(Check.text(START, LENGTH, "RRULE"));
        Check.noEvent(Check.text(START, LENGTH, "RRULE:FREQ=DAILY", "RRULE:FREQ=DAILY"));
    }

    /** Up to three lines EXDATE:times or RDATE:times. */
    private static void upToThreeLines() {
        for (int lines = 0; lines <= 4; lines++) {
            for (int kinds = 0; kinds < 1 << lines; kinds++) {
                StringBuilder text = new StringBuilder(Check.text(START, LENGTH));
                for (int i = 0; i < lines; i++) {
                    text.append((kinds >> i & 1) == 0 ? "EXDATE:" : "RDATE:").append(TIME).append('\n');
                }
                event(text.toString(), lines <= 3);
            }
        }
    }

    /** Wherever a time may stand, it is looked at in the same way. */
    private static void time(String time, boolean good) {
        for (String text : new String[] {Check.text("DTSTART:" + time, LENGTH),
            Check.text("DTSTART;TZID=2:" + time, LENGTH), ruled("FREQ=DAILY;UNTIL=" + time),
            Check.text(START, LENGTH, "EXDATE:" + time), Check.text(START, LENGTH, "RDATE:" + TIME + "," + time)}) {
            event(text, good);
        }
    }

    /** The year 2000 .. 2019, the month and the day; the date must be one. */
    private static void years() {
        for (String date : new String[] {"20000101", "20191231", "20000229", "20040229", "20160229", "20190228",
            "20190430"}) {
            time(date + "T0000", true);
        }
        for (String date : new String[] {"19991231", "20200101", "20200229", "00000101", "99991231", "20190229",
            "20000230", "20190431", "20190631", "20190931", "20191131", "20190132", "20190100", "20190001",
            "20191301", "20199901", "20190199"}) {
            time(date + "T0000", false);
        }
    }

    /** Two digits for the hour, 00 .. 23, two for the minute, 00 .. 59. */
    private static void hoursAndMinutes() {
        for (String clock : new String[] {"0000", "2300", "0059", "2359", "0909"}) {
            time("20000101T" + clock, true);
        }
        for (String clock : new String[] {"2400", "2401", "9900", "0060", "2360", "0099", "-100", "00-1", "0:00"}) {
            time("20000101T" + clock, false);
        }
    }

    /** A time is eight digits, then T, two digits and two digits. */
    private static void digitsOfATime() {
        for (int at = 0; at < TIME.length(); at++) {
            time(TIME.substring(0, at) + TIME.substring(at + 1), false);
            time(TIME.substring(0, at) + "0" + TIME.substring(at), false);
            for (String wrong : new String[] {"/", ":", " ", "-", "O", "t"}) {
                time(TIME.substring(0, at) + wrong + TIME.substring(at + 1), false);
            }
        }
        time("", false);
        time(TIME + "0", false);
        time(TIME + "Z", false);
        time(TIME + "00", false);
    }

    /** Times are one to six of them, with commas between. */
    private static void oneToSixTimes() {
        list(Check.text(START, LENGTH) + "EXDATE:", TIME, "\n", 6);
        list(Check.text(START, LENGTH) + "RDATE:", TIME, "\n", 6);
        String six = items(TIME, 6);
        Check.event(Check.text(START, LENGTH, "RDATE:" + six, "EXDATE:" + six));
        Check.noEvent(Check.text(START, LENGTH, "RDATE:" + TIME, "EXDATE:" + six + "," + TIME));
    }

    /** A rule is FREQ=DAILY, WEEKLY, MONTHLY or YEARLY. */
    private static void frequencies() {
        for (String frequency : FREQUENCIES) {
            rule("FREQ=" + frequency);
            noRule("FREQ=" + frequency + "X");
            noRule("FREQ=" + frequency.substring(0, frequency.length() - 1));
            noRule("FREQ=" + frequency.toLowerCase());
            noRule("FREQ=" + frequency + "," + frequency);
            noRule(frequency);
        }
        for (String wrong : new String[] {"", "FREQ", "FREQ=", "FREQ=HOURLY", "FREQ=SECONDLY", "COUNT=1"}) {
            noRule(wrong);
        }
    }

    /** And behind it, each with ; in front, in any order. */
    private static void partsInAnyOrder() {
        List<String> parts = new ArrayList<>(List.of("INTERVAL=2", "COUNT=3", "BYMONTH=1", "BYMONTHDAY=1", "BYDAY=MO",
                "BYSETPOS=1", "WKST=SU"));
        for (int i = 0; i < parts.size(); i++) {
            Collections.rotate(parts, 1);
            rule("FREQ=MONTHLY;" + String.join(";", parts));
            List<String> backwards = new ArrayList<>(parts);
            Collections.reverse(backwards);
            rule("FREQ=MONTHLY;" + String.join(";", backwards));
            noRule(String.join(";", parts) + ";FREQ=MONTHLY");
            noRule("FREQ=MONTHLY;" + String.join(",", parts));
            noRule("FREQ=MONTHLY;;" + String.join(";", parts));
            noRule("FREQ=MONTHLY;" + String.join(";", parts) + ";");
            noRule("FREQ=MONTHLY" + String.join(";", parts));
        }
        noRule("FREQ=MONTHLY;");
    }

    /** Each at most once. */
    private static void partsAtMostOnce() {
        for (String part : new String[] {"INTERVAL=2", "COUNT=3", "UNTIL=" + TIME, "BYMONTH=1", "BYMONTHDAY=1",
            "BYDAY=MO", "WKST=SU"}) {
            rule("FREQ=MONTHLY;" + part);
            noRule("FREQ=MONTHLY;" + part + ";" + part);
            noRule("FREQ=MONTHLY;" + part + ";BYSETPOS=1;BYMONTH=2;" + part);
        }
        rule("FREQ=MONTHLY;BYDAY=MO;BYSETPOS=1");
        noRule("FREQ=MONTHLY;BYSETPOS=1;BYDAY=MO;BYSETPOS=1");
        noRule("FREQ=MONTHLY;FREQ=MONTHLY");
        noRule("FREQ=MONTHLY;INTERVAL=2;COUNT=3;BYMONTH=1;BYMONTHDAY=1;BYDAY=MO;BYSETPOS=1;WKST=SU;INTERVAL=2");
    }

    /** INTERVAL=n, n 1 .. 99; COUNT=n, n 1 .. 99; numbers have no zeros in front. */
    private static void intervalsAndCounts() {
        for (String frequency : FREQUENCIES) {
            String before = START + "\n" + LENGTH + "\nRRULE:FREQ=" + frequency;
            number(before + ";INTERVAL=", "\n", 99, false);
            number(before + ";COUNT=", "\n", 99, false);
        }
        noRule("FREQ=DAILY;INTERVAL=1,2");
        noRule("FREQ=DAILY;COUNT=1,2");
    }

    /** UNTIL=time: just one. */
    private static void untils() {
        rule("FREQ=DAILY;UNTIL=20000101T0000");
        rule("FREQ=DAILY;UNTIL=20191231T2359");
        noRule("FREQ=DAILY;UNTIL=20200101T0000");
        noRule("FREQ=DAILY;UNTIL=19991231T2359");
        noRule("FREQ=DAILY;UNTIL=" + TIME + "," + TIME);
        noRule("FREQ=DAILY;UNTIL=");
    }

    /** BYMONTH=months, 1 .. 12. */
    private static void months() {
        number(START + "\n" + LENGTH + "\nRRULE:FREQ=DAILY;BYMONTH=", "\n", 12, false);
        number(START + "\n" + LENGTH + "\nRRULE:FREQ=DAILY;BYMONTH=3,", ";COUNT=1\n", 12, false);
    }

    /** BYMONTHDAY=monthdays, 1 .. 31 or -1 .. -31. */
    private static void monthDays() {
        number(START + "\n" + LENGTH + "\nRRULE:FREQ=DAILY;BYMONTHDAY=", "\n", 31, true);
        number(START + "\n" + LENGTH + "\nRRULE:FREQ=DAILY;BYMONTHDAY=-3,", ",3\n", 31, true);
    }

    /** BYDAY=weekdays, each MO .. SU, with a number 1 .. 53 or -1 .. -53 in front or without. */
    private static void weekdays() {
        for (String weekday : WEEKDAYS) {
            rule("FREQ=DAILY;BYDAY=" + weekday);
            rule("FREQ=MONTHLY;BYDAY=53" + weekday);
            rule("FREQ=YEARLY;BYDAY=-53" + weekday);
            noRule("FREQ=MONTHLY;BYDAY=54" + weekday);
            noRule("FREQ=YEARLY;BYDAY=-54" + weekday);
            noRule("FREQ=YEARLY;BYDAY=0" + weekday);
            noRule("FREQ=YEARLY;BYDAY=" + weekday.charAt(0));
            noRule("FREQ=YEARLY;BYDAY=" + weekday + "1");
            noRule("FREQ=YEARLY;BYDAY=" + weekday.toLowerCase());
            noRule("FREQ=YEARLY;BYDAY=" + weekday.charAt(1) + weekday.charAt(0));
        }
        for (String number : new String[] {"1", "53", "-1", "-53"}) {
            rule("FREQ=MONTHLY;BYDAY=TU," + number + "FR");
        }
        for (String number : new String[] {"0", "54", "-0", "-54", "01", "-01", "+1", "-", "--1", "1-", "1 ", " 1",
            "100", "4294967297", "-4294967295"}) {
            noRule("FREQ=MONTHLY;BYDAY=" + number + "FR");
            noRule("FREQ=MONTHLY;BYDAY=TU," + number + "FR");
        }
        for (String number : new String[] {"1", "53", "-1", ""}) {
            noRule("FREQ=MONTHLY;BYDAY=" + number);
        }
    }

    /** BYSETPOS=positions, 1 .. 99 or -1 .. -99. */
    private static void positions() {
        number(START + "\n" + LENGTH + "\nRRULE:FREQ=MONTHLY;BYDAY=MO;BYSETPOS=", "\n", 99, true);
        number(START + "\n" + LENGTH + "\nRRULE:FREQ=MONTHLY;BYSETPOS=2,", ";BYDAY=MO\n", 99, true);
    }

    /** WKST=weekday (without a number). */
    private static void weekStarts() {
        for (String weekday : WEEKDAYS) {
            for (String frequency : FREQUENCIES) {
                rule("FREQ=" + frequency + ";WKST=" + weekday);
                noRule("FREQ=" + frequency + ";WKST=1" + weekday);
                noRule("FREQ=" + frequency + ";WKST=-1" + weekday);
                noRule("FREQ=" + frequency + ";WKST=" + weekday + "," + weekday);
            }
        }
        noRule("FREQ=WEEKLY;WKST=");
        noRule("FREQ=WEEKLY;WKST=M");
        noRule("FREQ=WEEKLY;WKST=1");
    }

    /** Of months, monthdays, weekdays and positions there are one to eight, with commas between. */
    private static void oneToEight() {
        String before = START + "\n" + LENGTH + "\nRRULE:FREQ=MONTHLY;";
        for (String behind : new String[] {"\n", ";INTERVAL=2\n"}) {
            list(before + "BYMONTH=", "12", behind, 8);
            list(before + "BYMONTHDAY=", "-31", behind, 8);
            list(before + "BYDAY=", "SU", behind, 8);
            list(before + "BYDAY=", "-53MO", behind, 8);
            list(before + "BYMONTH=1;BYSETPOS=", "-99", behind, 8);
        }
    }

    /** COUNT and UNTIL don't stand together. */
    private static void countAndUntilApart() {
        for (String frequency : FREQUENCIES) {
            rule("FREQ=" + frequency + ";COUNT=1");
            rule("FREQ=" + frequency + ";UNTIL=" + TIME);
            noRule("FREQ=" + frequency + ";COUNT=1;UNTIL=" + TIME);
            noRule("FREQ=" + frequency + ";UNTIL=" + TIME + ";INTERVAL=1;COUNT=1");
        }
    }

    /** BYMONTHDAY doesn't stand with WEEKLY. */
    private static void monthDaysNotWeekly() {
        for (String frequency : FREQUENCIES) {
            for (String days : new String[] {"BYMONTHDAY=1", "BYMONTHDAY=-1", "BYDAY=MO;BYMONTHDAY=1"}) {
                event(ruled("FREQ=" + frequency + ";" + days), !frequency.equals("WEEKLY"));
            }
        }
    }

    /** Numbered weekdays only stand with MONTHLY and YEARLY. */
    private static void numberedWeekdays() {
        for (String days : new String[] {"1MO", "-1MO", "MO,53SU", "-53SU,MO", "MO,TU,WE,TH,FR,SA,SU,1MO"}) {
            noRule("FREQ=DAILY;BYDAY=" + days);
            noRule("FREQ=WEEKLY;BYDAY=" + days);
            noRule("FREQ=WEEKLY;BYMONTH=1;BYDAY=" + days);
            rule("FREQ=MONTHLY;BYDAY=" + days);
            rule("FREQ=YEARLY;BYDAY=" + days);
        }
    }

    /** BYSETPOS only with another part whose name begins with BY. */
    private static void positionsNotAlone() {
        for (String frequency : FREQUENCIES) {
            noRule("FREQ=" + frequency + ";BYSETPOS=1");
            noRule("FREQ=" + frequency + ";BYSETPOS=-1;INTERVAL=2;COUNT=2;WKST=TU");
            noRule("FREQ=" + frequency + ";UNTIL=" + TIME + ";BYSETPOS=1");
            rule("FREQ=" + frequency + ";BYSETPOS=1;BYMONTH=1");
            rule("FREQ=" + frequency + ";BYDAY=MO;BYSETPOS=1");
            event(ruled("FREQ=" + frequency + ";BYMONTHDAY=1;BYSETPOS=1"), !frequency.equals("WEEKLY"));
        }
    }
}
