import java.time.LocalDate;
import java.time.format.DateTimeFormatter;
import java.util.ArrayList;
import java.util.List;

/** The boundaries of the rule's days and of the instances, a test for each sentence. */
final class BoundsOfRulesTest {
    private static final String LENGTH = "DURATION:PT1M";
    private static final String ALL_WEEKDAYS = "BYDAY=MO,TU,WE,TH,FR,SA,SU";
    private static final String[] WEEKDAYS = {"MO", "TU", "WE", "TH", "FR", "SA", "SU"};
    private static final String[] FREQUENCIES = {"DAILY", "WEEKLY", "MONTHLY", "YEARLY"};

    public static void main(String[] args) {
        firstWeekIsCut();
        lastWeekIsCut();
        nothingBehindTheLastDay();
        weeksBeginWithMonday();
        everyPeriodIfIntervalIsMissing();
        widestIntervals();
        intervalsUpToTheEnd();
        firstAndLastMonth();
        firstAndLastDayOfMonths();
        daysThatAMonthDoesNotHave();
        weekdaysOfMonths();
        weekdaysOfYears();
        weekdaysOfMonthsInAYear();
        takenFromTheStart();
        takenFromALeapDay();
        firstAndLastPosition();
        positionsBehindTheLast();
        laterThanTheStart();
        notLaterThanUntil();
        amongTheFirstCount();
        eachTakenOnce();
        noneOfExdates();
        fortyInstances();
        fortyBehindExdates();
        fortyWithRdates();
        zoneWhenBooked();
        orderIsKept();
        Check.finish();
    }

    private static void due(String start, String rule, String... times) {
        Check.due(new String[] {"DTSTART:" + start, LENGTH, "RRULE:" + rule}, times);
    }

    /** Days from the first of January 2000 on, at midnight, written as in a text. */
    private static String time(int day) {
        return LocalDate.of(2000, 1, 1).plusDays(day).format(DateTimeFormatter.BASIC_ISO_DATE) + "T0000";
    }

    private static String[] times(int from, int step, int n) {
        String[] row = new String[n];
        for (int i = 0; i < n; i++) {
            row[i] = time(from + i * step);
        }
        return row;
    }

    /** Only 0 .. 7304 are days, also at the ends of periods: the first week begins with day 0, a Saturday. */
    private static void firstWeekIsCut() {
        for (int w = 0; w < 7; w++) {
            int next = (w - 5 + 6) % 7 + 1;
            String rule = "FREQ=WEEKLY;" + ALL_WEEKDAYS + ";WKST=" + WEEKDAYS[w];
            // The start is there anyway, be it the last one or not.
            if (next > 1) {
                due(time(0), rule + ";BYSETPOS=-1;COUNT=3", time(0), time(next - 1), time(next + 6));
                due(time(0), rule + ";BYSETPOS=2;COUNT=3", time(0), time(1), time(next + 1));
            } else {
                due(time(0), rule + ";BYSETPOS=-1;COUNT=3", time(0), time(7), time(14));
                due(time(0), rule + ";BYSETPOS=2;COUNT=3", time(0), time(2), time(9));
            }
            due(time(0), rule + ";BYSETPOS=1;COUNT=2", time(0), time(next));
            if (next < 7) {
                due(time(0), rule + ";BYSETPOS=" + (next + 1) + ";COUNT=2", time(0), time(next + next));
            }
        }
    }

    /** Only 0 .. 7304 are days: the last week ends with day 7304, a Tuesday. */
    private static void lastWeekIsCut() {
        for (int w = 0; w < 7; w++) {
            int first = 7304 - (1 - w + 7) % 7;
            String rule = "FREQ=WEEKLY;" + ALL_WEEKDAYS + ";WKST=" + WEEKDAYS[w];
            int length = 7305 - first;
            due(time(first - 8), rule + ";BYSETPOS=-1", time(first - 8), time(first - 1), time(7304));
            due(time(first - 8), rule + ";BYSETPOS=" + -length, time(first - 8), time(first - length), time(first));
        }
        due(time(7303), "FREQ=WEEKLY;BYDAY=MO,TU,WE;BYSETPOS=3", time(7303));
    }

    /** Only 0 .. 7304 are days: there is none behind the last one. */
    private static void nothingBehindTheLastDay() {
        for (String frequency : FREQUENCIES) {
            due(time(7304), "FREQ=" + frequency, time(7304));
            due(time(7304), "FREQ=" + frequency + ";INTERVAL=99", time(7304));
            due(time(7304), "FREQ=" + frequency + ";" + ALL_WEEKDAYS, time(7304));
            due("20191231T2359", "FREQ=" + frequency + ";COUNT=99", "20191231T2359");
            due("20191231T2358", "FREQ=" + frequency + ";UNTIL=20191231T2359", "20191231T2358");
        }
        due(time(0), "FREQ=DAILY;BYMONTH=12;BYMONTHDAY=31;BYDAY=TU", time(0), "20021231T0000", "20131231T0000",
                time(7304));
        due(time(7303), "FREQ=DAILY", time(7303), time(7304));
        due(time(7297), "FREQ=WEEKLY", time(7297), time(7304));
        due(time(7298), "FREQ=WEEKLY", time(7298));
        due("20191031T0000", "FREQ=MONTHLY", "20191031T0000", "20191231T0000");
        due("20181231T0000", "FREQ=YEARLY", "20181231T0000", "20191231T0000");
        due("20190101T0000", "FREQ=YEARLY", "20190101T0000");
    }

    /** Seven days that begin with the weekday of WKST (Monday if it is missing). */
    private static void weeksBeginWithMonday() {
        for (int w = 0; w < 7; w++) {
            // The first week from Monday to Sunday that is whole, and the third one.
            String rule = "FREQ=WEEKLY;INTERVAL=2;COUNT=4;BYDAY=MO,SU";
            String[] whole = {time(2), time(8), time(16), time(22)};
            if (w == 0) {
                due(time(2), rule, whole);
                due(time(2), rule + ";WKST=MO", whole);
            } else {
                // From another day on, Monday and the Sunday before it stand in one week.
                due(time(2), rule + ";WKST=" + WEEKDAYS[w], time(2), time(15), time(16), time(29));
            }
        }
    }

    /** From there on every INTERVAL-th one (every one, if it is missing). */
    private static void everyPeriodIfIntervalIsMissing() {
        for (String interval : new String[] {"", ";INTERVAL=1"}) {
            due(time(0), "FREQ=DAILY;COUNT=3" + interval, time(0), time(1), time(2));
            due(time(0), "FREQ=WEEKLY;COUNT=3" + interval, time(0), time(7), time(14));
            due(time(0), "FREQ=MONTHLY;COUNT=3" + interval, time(0), "20000201T0000", "20000301T0000");
            due(time(0), "FREQ=YEARLY;COUNT=3" + interval, time(0), "20010101T0000", "20020101T0000");
        }
        due(time(0), "FREQ=DAILY;COUNT=3;INTERVAL=2", time(0), time(2), time(4));
        due(time(0), "FREQ=WEEKLY;COUNT=3;INTERVAL=2", time(0), time(14), time(28));
        due(time(0), "FREQ=MONTHLY;COUNT=3;INTERVAL=2", time(0), "20000301T0000", "20000501T0000");
        due(time(0), "FREQ=YEARLY;COUNT=3;INTERVAL=2", time(0), "20020101T0000", "20040101T0000");
    }

    /** Every INTERVAL-th one, up to the 99th. */
    private static void widestIntervals() {
        due(time(0), "FREQ=DAILY;INTERVAL=99", times(0, 99, 40));
        due(time(1), "FREQ=DAILY;INTERVAL=99;BYMONTH=12;BYMONTHDAY=31", time(1));
        due(time(0), "FREQ=WEEKLY;INTERVAL=99", times(0, 693, 11));
        due(time(0), "FREQ=MONTHLY;INTERVAL=99", time(0), "20080401T0000", "20160701T0000");
        due(time(0), "FREQ=YEARLY;INTERVAL=99", time(0));
        due(time(0), "FREQ=YEARLY;INTERVAL=99;BYMONTH=12;BYMONTHDAY=31", time(0), "20001231T0000");
    }

    /** The last period that counts may be the last one of all, or lie behind it. */
    private static void intervalsUpToTheEnd() {
        due("20000101T0000", "FREQ=YEARLY;INTERVAL=19", "20000101T0000", "20190101T0000");
        due("20000101T0000", "FREQ=YEARLY;INTERVAL=20", "20000101T0000");
        due("20111231T0000", "FREQ=MONTHLY;INTERVAL=96", "20111231T0000", "20191231T0000");
        due("20111201T0000", "FREQ=MONTHLY;INTERVAL=97", "20111201T0000");
        due(time(7304 - 693), "FREQ=WEEKLY;INTERVAL=99", time(7304 - 693), time(7304));
        due(time(7304 - 692), "FREQ=WEEKLY;INTERVAL=99", time(7304 - 692));
        due(time(7304 - 99), "FREQ=DAILY;INTERVAL=99", time(7304 - 99), time(7304));
        due(time(7304 - 98), "FREQ=DAILY;INTERVAL=99", time(7304 - 98));
    }

    /** Its month is one of BYMONTH's, if there is BYMONTH. */
    private static void firstAndLastMonth() {
        due("20000130T0000", "FREQ=DAILY;BYMONTH=1;COUNT=4", "20000130T0000", "20000131T0000", "20010101T0000",
                "20010102T0000");
        due("20001130T0000", "FREQ=DAILY;BYMONTH=12;UNTIL=20001202T0000", "20001130T0000", "20001201T0000",
                "20001202T0000");
        due("20001230T0000", "FREQ=DAILY;BYMONTH=12;COUNT=3", "20001230T0000", "20001231T0000", "20011201T0000");
        due("20181215T0000", "FREQ=YEARLY;BYMONTH=1,12", "20181215T0000", "20190115T0000", "20191215T0000");
    }

    /** It is one of BYMONTHDAY's days of its month (-1 being the last one). */
    private static void firstAndLastDayOfMonths() {
        List<String> firsts = new ArrayList<>();
        List<String> lasts = new ArrayList<>(List.of("20000101T0000"));
        for (LocalDate month = LocalDate.of(2000, 1, 1); month.getYear() < 2003; month = month.plusMonths(1)) {
            firsts.add(month.format(DateTimeFormatter.BASIC_ISO_DATE) + "T0000");
            lasts.add(month.plusMonths(1).minusDays(1).format(DateTimeFormatter.BASIC_ISO_DATE) + "T0000");
        }
        for (String frequency : new String[] {"DAILY", "MONTHLY", "YEARLY"}) {
            due(time(0), "FREQ=" + frequency + ";BYMONTHDAY=1;COUNT=36", firsts.toArray(new String[0]));
            due(time(0), "FREQ=" + frequency + ";BYMONTHDAY=-1;COUNT=37", lasts.toArray(new String[0]));
        }
    }

    /** The 29th, 30th and 31st, and their like from the end, are days of some months alone. */
    private static void daysThatAMonthDoesNotHave() {
        due("20010115T0000", "FREQ=MONTHLY;BYMONTHDAY=31;COUNT=4", "20010115T0000", "20010131T0000", "20010331T0000",
                "20010531T0000");
        due("20010115T0000", "FREQ=MONTHLY;BYMONTHDAY=-31;COUNT=4", "20010115T0000", "20010301T0000", "20010501T0000",
                "20010701T0000");
        due("20010115T0000", "FREQ=MONTHLY;BYMONTHDAY=-30;COUNT=4", "20010115T0000", "20010302T0000", "20010401T0000",
                "20010502T0000");
        due("20000115T0000", "FREQ=YEARLY;BYMONTH=2;BYMONTHDAY=29,-29", "20000115T0000", "20000201T0000",
                "20000229T0000", "20040201T0000", "20040229T0000", "20080201T0000", "20080229T0000", "20120201T0000",
                "20120229T0000", "20160201T0000", "20160229T0000");
        due("20000115T0000", "FREQ=YEARLY;BYMONTH=2;BYMONTHDAY=30,31,-30,-31", "20000115T0000");
        due("20000115T0000", "FREQ=DAILY;BYMONTH=4,6,9,11;BYMONTHDAY=31,-31", "20000115T0000");
    }

    /** With a number k, the k-th of that weekday (the k-th last one for -k) in its month, if it is MONTHLY. */
    private static void weekdaysOfMonths() {
        due("20000101T0000", "FREQ=MONTHLY;BYDAY=1SA;COUNT=3", "20000101T0000", "20000205T0000", "20000304T0000");
        due("20000101T0000", "FREQ=MONTHLY;BYDAY=-1MO;COUNT=3", "20000101T0000", "20000131T0000", "20000228T0000");
        due("20000101T0000", "FREQ=MONTHLY;BYDAY=5MO;COUNT=3", "20000101T0000", "20000131T0000", "20000529T0000");
        due("20000101T0000", "FREQ=MONTHLY;BYDAY=-5MO;COUNT=3", "20000101T0000", "20000103T0000", "20000501T0000");
        due("20000101T0000", "FREQ=MONTHLY;BYDAY=5TU;BYMONTH=2", "20000101T0000", "20000229T0000");
        due("20000101T0000", "FREQ=MONTHLY;BYDAY=-5TU;BYMONTH=2", "20000101T0000", "20000201T0000");
        for (String never : new String[] {"6MO", "-6MO", "53SA", "-53SA"}) {
            due("20000101T0000", "FREQ=MONTHLY;BYDAY=" + never, "20000101T0000");
        }
    }

    /** Otherwise in its year: the 53rd one is there if the year begins with that weekday, or is a leap year. */
    private static void weekdaysOfYears() {
        due("20000101T0000", "FREQ=YEARLY;BYDAY=1SA;COUNT=3", "20000101T0000", "20010106T0000", "20020105T0000");
        due("20000101T0000", "FREQ=YEARLY;BYDAY=-1SU;COUNT=3", "20000101T0000", "20001231T0000", "20011230T0000");
        due("20000101T0000", "FREQ=YEARLY;BYDAY=52SU;COUNT=3", "20000101T0000", "20001224T0000", "20011230T0000");
        due("20000101T0000", "FREQ=YEARLY;BYDAY=53SU", "20000101T0000", "20001231T0000", "20061231T0000",
                "20121230T0000", "20171231T0000");
        due("20000101T0000", "FREQ=YEARLY;BYDAY=53MO", "20000101T0000", "20011231T0000", "20071231T0000",
                "20121231T0000", "20181231T0000");
        due("20000101T0000", "FREQ=YEARLY;BYDAY=-53MO", "20000101T0000", "20010101T0000", "20070101T0000",
                "20120102T0000", "20180101T0000");
        due("20000101T0000", "FREQ=YEARLY;BYDAY=-53SU", "20000101T0000", "20000102T0000", "20060101T0000",
                "20120101T0000", "20170101T0000");
        due("20000101T0000", "FREQ=YEARLY;BYDAY=5MO;COUNT=3", "20000101T0000", "20000131T0000", "20010129T0000");
        due("20000101T0000", "FREQ=YEARLY;BYDAY=6MO;COUNT=3", "20000101T0000", "20000207T0000", "20010205T0000");
    }

    /** In its month, if there is BYMONTH. */
    private static void weekdaysOfMonthsInAYear() {
        due("20000101T0000", "FREQ=YEARLY;BYMONTH=3;BYDAY=1MO,-1MO;COUNT=4", "20000101T0000", "20000306T0000",
                "20000327T0000", "20010305T0000");
        due("20000101T0000", "FREQ=YEARLY;BYMONTH=12;BYDAY=6SU,53SU,52SU,-6SU", "20000101T0000");
        due("20000101T0000", "FREQ=YEARLY;BYMONTH=12;BYDAY=5SU;COUNT=3", "20000101T0000", "20001231T0000",
                "20011230T0000");
    }

    /** What is missing being taken from the start's day. */
    private static void takenFromTheStart() {
        due("20000105T0000", "FREQ=WEEKLY;BYMONTH=2;COUNT=3", "20000105T0000", "20000202T0000", "20000209T0000");
        due("20000105T0000", "FREQ=WEEKLY;BYDAY=TH;COUNT=3", "20000105T0000", "20000106T0000", "20000113T0000");
        due("20000131T0000", "FREQ=MONTHLY;BYMONTH=2,3,4;COUNT=3", "20000131T0000", "20000331T0000", "20010331T0000");
        due("20000105T0000", "FREQ=MONTHLY;BYDAY=TH;COUNT=3", "20000105T0000", "20000106T0000", "20000113T0000");
        due("20000105T0000", "FREQ=MONTHLY;BYMONTHDAY=6;COUNT=3", "20000105T0000", "20000106T0000", "20000206T0000");
        due("20000305T0000", "FREQ=YEARLY;COUNT=3", "20000305T0000", "20010305T0000", "20020305T0000");
        due("20000305T0000", "FREQ=YEARLY;BYMONTH=2,4;COUNT=3", "20000305T0000", "20000405T0000", "20010205T0000");
        due("20000305T0000", "FREQ=YEARLY;BYMONTHDAY=6;COUNT=3", "20000305T0000", "20000306T0000", "20000406T0000");
        due("20000305T0000", "FREQ=YEARLY;BYDAY=2MO;COUNT=3", "20000305T0000", "20010108T0000", "20020114T0000");
    }

    /** The same day of the month, and the same month: a day that most years do not have. */
    private static void takenFromALeapDay() {
        due("20000229T0000", "FREQ=YEARLY", "20000229T0000", "20040229T0000", "20080229T0000", "20120229T0000",
                "20160229T0000");
        due("20000229T0000", "FREQ=YEARLY;INTERVAL=3", "20000229T0000", "20120229T0000");
        due("20000229T0000", "FREQ=MONTHLY;INTERVAL=12;UNTIL=20041231T0000", "20000229T0000", "20040229T0000");
        due("20160229T0000", "FREQ=YEARLY", "20160229T0000");
    }

    /** Only those days stay that stand at one of its positions among them (1 the first, -1 the last). */
    private static void firstAndLastPosition() {
        due("20000103T0000", "FREQ=MONTHLY;BYDAY=MO;BYSETPOS=1,-1;COUNT=5", "20000103T0000", "20000131T0000",
                "20000207T0000", "20000228T0000", "20000306T0000");
        due("20010101T0000", "FREQ=YEARLY;" + ALL_WEEKDAYS + ";BYSETPOS=99,-99;COUNT=4", "20010101T0000",
                "20010409T0000", "20010924T0000", "20020409T0000");
        due("20000101T0000", "FREQ=DAILY;BYDAY=MO;BYSETPOS=1;COUNT=3", "20000101T0000", "20000103T0000",
                "20000110T0000");
        due("20000101T0000", "FREQ=DAILY;BYDAY=MO;BYSETPOS=-1;COUNT=3", "20000101T0000", "20000103T0000",
                "20000110T0000");
        // All the days of a year, be it a leap year or not.
        due("20000101T0000", "FREQ=YEARLY;" + ALL_WEEKDAYS + ";BYSETPOS=-1;COUNT=3", "20000101T0000", "20001231T0000",
                "20011231T0000");
        // Days before the start have their positions too.
        due("20000112T0000", "FREQ=MONTHLY;BYDAY=MO;BYSETPOS=2,3;COUNT=2", "20000112T0000", "20000117T0000");
    }

    /** A position behind the last one, from either end, is no day's. */
    private static void positionsBehindTheLast() {
        due("20000101T0000", "FREQ=DAILY;BYDAY=MO;BYSETPOS=2,-2", "20000101T0000");
        due("20000101T0000", "FREQ=WEEKLY;BYDAY=MO,TU;BYSETPOS=3,-3", "20000101T0000");
        due("20000101T0000", "FREQ=MONTHLY;BYMONTHDAY=1,2,3;BYSETPOS=4,99,-4,-99", "20000101T0000");
        due("20000101T0000", "FREQ=MONTHLY;BYMONTHDAY=1,2,3;BYSETPOS=3;COUNT=2", "20000101T0000", "20000103T0000");
        due("20000102T0000", "FREQ=MONTHLY;BYMONTHDAY=1,2,3;BYSETPOS=-3;COUNT=2", "20000102T0000", "20000201T0000");
        due("20000101T0000", "FREQ=MONTHLY;BYDAY=MO;BYSETPOS=5;COUNT=3", "20000101T0000", "20000131T0000",
                "20000529T0000");
    }

    /** The start; and each of the rule's minutes, if it is later than the start. */
    private static void laterThanTheStart() {
        due("20000115T1200", "FREQ=MONTHLY;BYMONTHDAY=14,15,16;COUNT=3", "20000115T1200", "20000116T1200",
                "20000214T1200");
        due("20000115T0000", "FREQ=YEARLY;BYMONTH=1;BYMONTHDAY=1;COUNT=2", "20000115T0000", "20010101T0000");
        due("20000115T2359", "FREQ=DAILY;COUNT=2", "20000115T2359", "20000116T2359");
        Check.due(new String[] {"DTSTART:20000115T2359", LENGTH}, "20000115T2359");
    }

    /** Not later than UNTIL. */
    private static void notLaterThanUntil() {
        due("20000101T1200", "FREQ=DAILY;UNTIL=20000102T1159", "20000101T1200");
        due("20000101T1200", "FREQ=DAILY;UNTIL=20000102T1200", "20000101T1200", "20000102T1200");
        due("20000101T1200", "FREQ=DAILY;UNTIL=20000102T1201", "20000101T1200", "20000102T1200");
        due("20000101T1200", "FREQ=DAILY;UNTIL=20000101T1200", "20000101T1200");
        due("20000101T1200", "FREQ=DAILY;UNTIL=20000101T1159", "20000101T1200");
        due("20191230T2359", "FREQ=DAILY;UNTIL=20191231T2359", "20191230T2359", "20191231T2359");
        due("20191230T2359", "FREQ=DAILY;UNTIL=20000101T0000", "20191230T2359");
        Check.due(new String[] {"DTSTART:20000101T1200", LENGTH, "RRULE:FREQ=DAILY;UNTIL=20000102T1200",
            "RDATE:20000103T1200"}, "20000101T1200", "20000102T1200", "20000103T1200");
    }

    /** Counted with the start, among the first COUNT. */
    private static void amongTheFirstCount() {
        for (String frequency : FREQUENCIES) {
            due(time(0), "FREQ=" + frequency + ";COUNT=1", time(0));
            due(time(0), "FREQ=" + frequency + ";COUNT=1;BYMONTH=1,2", time(0));
        }
        due(time(0), "FREQ=DAILY;COUNT=2", time(0), time(1));
        due(time(0), "FREQ=WEEKLY;BYDAY=MO;COUNT=2", time(0), time(2));
        due(time(0), "FREQ=DAILY;COUNT=40", times(0, 1, 40));
        due(time(0), "FREQ=DAILY;COUNT=39", times(0, 1, 39));
        // What EXDATE takes has been counted before, what RDATE gives is not counted.
        Check.due(new String[] {"DTSTART:" + time(0), LENGTH, "RRULE:FREQ=DAILY;COUNT=3", "EXDATE:" + time(1)},
                time(0), time(2));
        Check.due(new String[] {"DTSTART:" + time(5), LENGTH, "RRULE:FREQ=DAILY;COUNT=2",
            "RDATE:" + time(0) + "," + time(9)}, time(0), time(5), time(6), time(9));
        String first = String.join(",", times(0, 1, 6));
        Check.due(new String[] {"DTSTART:" + time(0), LENGTH, "RRULE:FREQ=DAILY;COUNT=45", "EXDATE:" + first},
                times(6, 1, 39));
        Check.due(new String[] {"DTSTART:" + time(0), LENGTH, "RRULE:FREQ=DAILY;COUNT=99", "EXDATE:" + first},
                times(6, 1, 40));
    }

    /** Of these and of RDATE's times, each taken once. */
    private static void eachTakenOnce() {
        Check.due(new String[] {"DTSTART:" + time(0), LENGTH, "RDATE:" + time(0)}, time(0));
        Check.due(new String[] {"DTSTART:" + time(1), LENGTH, "RDATE:" + time(0) + "," + time(0), "RDATE:" + time(0)},
                time(0), time(1));
        Check.due(new String[] {"DTSTART:" + time(0), LENGTH, "RRULE:FREQ=DAILY;COUNT=3",
            "RDATE:" + time(0) + "," + time(1) + "," + time(2)}, times(0, 1, 3));
        due(time(0), "FREQ=DAILY;BYMONTHDAY=1,1,-31;COUNT=2", time(0), "20000201T0000");
    }

    /** Those that are none of EXDATE's: it may take the start, and all. */
    private static void noneOfExdates() {
        Check.due(new String[] {"DTSTART:" + time(0), LENGTH, "EXDATE:" + time(0)});
        Check.due(new String[] {"DTSTART:20000101T0001", LENGTH, "EXDATE:20000101T0000,20000101T0002"},
                "20000101T0001");
        Check.due(new String[] {"DTSTART:" + time(0), LENGTH, "RRULE:FREQ=DAILY;COUNT=3",
            "EXDATE:" + time(0) + "," + time(2)}, time(1));
        Check.due(new String[] {"DTSTART:" + time(0), LENGTH, "EXDATE:" + time(1), "RDATE:" + time(1)}, time(0));
        Check.due(new String[] {"DTSTART:" + time(0), LENGTH, "RDATE:" + time(1), "EXDATE:" + time(1)}, time(0));
        Check.due(new String[] {"DTSTART:" + time(7304), LENGTH, "EXDATE:" + time(7304), "EXDATE:" + time(7304)});
    }

    /** In their order; of more than 40 the first 40. */
    private static void fortyInstances() {
        due(time(0), "FREQ=DAILY;UNTIL=" + time(38), times(0, 1, 39));
        due(time(0), "FREQ=DAILY;UNTIL=" + time(39), times(0, 1, 40));
        due(time(0), "FREQ=DAILY;UNTIL=" + time(40), times(0, 1, 40));
        due(time(0), "FREQ=DAILY;COUNT=41", times(0, 1, 40));
        due(time(0), "FREQ=DAILY", times(0, 1, 40));
        due(time(7265), "FREQ=DAILY", times(7265, 1, 40));
        due(time(7266), "FREQ=DAILY", times(7266, 1, 39));
    }

    /** What EXDATE takes is none of the 40. */
    private static void fortyBehindExdates() {
        String[] lines = {"DTSTART:" + time(0), LENGTH, "RRULE:FREQ=DAILY", "EXDATE:" + time(0)};
        Check.due(lines, times(1, 1, 40));
        lines[3] = "EXDATE:" + String.join(",", times(6, 1, 6)) + "\nEXDATE:" + String.join(",", times(0, 1, 6));
        Check.due(lines, times(12, 1, 40));
        lines[3] = "EXDATE:" + time(40);
        Check.due(lines, times(0, 1, 40));
        lines[3] = "EXDATE:" + time(39);
        String[] want = times(0, 1, 40);
        want[39] = time(40);
        Check.due(lines, want);
        lines[2] = "RRULE:FREQ=DAILY;COUNT=41";
        Check.due(lines, want);
        lines[2] = "RRULE:FREQ=DAILY;COUNT=40";
        Check.due(lines, times(0, 1, 39));
    }

    /** RDATE's times are among the 40 if they are early enough. */
    private static void fortyWithRdates() {
        String[] lines = {"DTSTART:" + time(1), LENGTH, "RRULE:FREQ=DAILY", "RDATE:" + time(0)};
        Check.due(lines, times(0, 1, 40));
        lines[3] = "RDATE:" + time(41);
        Check.due(lines, times(1, 1, 40));
        lines[3] = "RDATE:" + time(7304);
        Check.due(lines, times(1, 1, 40));
        lines[2] = "RRULE:FREQ=DAILY;COUNT=39";
        String[] want = times(1, 1, 40);
        want[39] = time(7304);
        Check.due(lines, want);
        lines[2] = "RRULE:FREQ=DAILY;COUNT=40";
        Check.due(lines, times(1, 1, 40));
        lines[3] = "RDATE:20000209T0001";
        want[39] = "20000209T0001";
        lines[2] = "RRULE:FREQ=DAILY";
        Check.due(lines, want);
    }

    /** With the zone as it is when the event is booked; without a zone they are the world's. */
    private static void zoneWhenBooked() {
        for (int zone = 0; zone < 3; zone++) {
            RecurrenceDesk desk = new RecurrenceDesk();
            String[] lines = {"DTSTART;TZID=" + zone + ":20000102T0000", LENGTH};
            Check.equal("booked before the change", 1, () -> Check.book(desk, 0, lines));
            desk.change(zone, 0, -840);
            Check.equal("booked behind the change", 1, () -> Check.book(desk, 0, lines));
            Check.equal("booked without a zone", 1, () -> Check.book(desk, 0, "DTSTART:20000102T0000", LENGTH));
            desk.change(zone, 1, 840);
            Check.equal("booked behind both", 1, () -> Check.book(desk, 0, lines));
            int[] want = {1440, 2280, 1440, 600};
            for (int i = 0; i < 4; i++) {
                int event = i;
                Check.equal("instance(0, " + event + ", 0)", want[event], () -> desk.instance(0, event, 0));
            }
        }
    }

    /** They keep their order, also where clocks make a later one an earlier one or the same. */
    private static void orderIsKept() {
        RecurrenceDesk desk = new RecurrenceDesk();
        desk.change(2, 1440, 840);
        Check.equal("instances in a zone", List.of(1439, 1440, 2279, 1440, 2279),
                () -> Check.instancesOf(desk, "DTSTART;TZID=2:20000101T2359", "DURATION:PT839M",
                        "RDATE:20000102T0000,20000102T1359,20000102T1400,20000103T0359"));
        Check.equal("stretches", 1, () -> desk.stretches(0));
        Check.equal("the first minute", 1439, () -> desk.stretch(0, 0, 0));
        Check.equal("the first one behind", 2279 + 839, () -> desk.stretch(0, 0, 1));
    }
}
