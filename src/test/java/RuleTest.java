import java.util.ArrayList;
import java.util.List;

/** The rule's days and the instances (promises 5, 8 and 9), each case with the times that are due. */
final class RuleTest {
    public static void main(String[] args) {
        daily();
        weekly();
        monthly();
        yearly();
        numberedWeekdays();
        setPositions();
        endsOfAllDays();
        countAndUntil();
        addedAndLeftOut();
        atMostForty();
        everyMonth();
        rulesOneAfterAnother();
        inZones();
        Check.finish();
    }

    /** Books an event without a zone, of one minute, and compares all its instances. */
    private static void due(String start, String rule, String... times) {
        due(new String[] {"DTSTART:" + start, "DURATION:PT1M", "RRULE:" + rule}, times);
    }

    private static void due(String[] lines, String... times) {
        Check.due(lines, times);
    }

    private static void daily() {
        due("20000227T0010", "FREQ=DAILY;COUNT=4",
                "20000227T0010", "20000228T0010", "20000229T0010", "20000301T0010");
        due("20010227T2359", "FREQ=DAILY;INTERVAL=2;COUNT=3", "20010227T2359", "20010301T2359", "20010303T2359");
        due("20000101T0000", "FREQ=DAILY;BYDAY=MO,FR;COUNT=4",
                "20000101T0000", "20000103T0000", "20000107T0000", "20000110T0000");
        due("20000101T0000", "FREQ=DAILY;BYMONTHDAY=-1,15;COUNT=5",
                "20000101T0000", "20000115T0000", "20000131T0000", "20000215T0000", "20000229T0000");
        due("20000130T0000", "FREQ=DAILY;BYMONTH=1,3;COUNT=4",
                "20000130T0000", "20000131T0000", "20000301T0000", "20000302T0000");
        due("20000101T0000", "FREQ=DAILY;INTERVAL=99;BYMONTHDAY=16,17;COUNT=3",
                "20000101T0000", "20000717T0000", "20010817T0000");
        due("20000101T0000", "FREQ=DAILY;BYMONTH=2;BYMONTHDAY=30", "20000101T0000");
    }

    private static void weekly() {
        due("20000105T0800", "FREQ=WEEKLY;COUNT=3", "20000105T0800", "20000112T0800", "20000119T0800");
        due("20000105T0800", "FREQ=WEEKLY;INTERVAL=3;COUNT=3", "20000105T0800", "20000126T0800", "20000216T0800");
        due("20000105T0800", "FREQ=WEEKLY;BYDAY=MO,FR;COUNT=4",
                "20000105T0800", "20000107T0800", "20000110T0800", "20000114T0800");
        due("20000105T0800", "FREQ=WEEKLY;INTERVAL=2;BYDAY=TU,SU;COUNT=4",
                "20000105T0800", "20000109T0800", "20000118T0800", "20000123T0800");
        due("20000105T0800", "FREQ=WEEKLY;INTERVAL=2;BYDAY=TU,SU;WKST=SU;COUNT=4",
                "20000105T0800", "20000116T0800", "20000118T0800", "20000130T0800");
        due("20000105T0800", "FREQ=WEEKLY;INTERVAL=2;BYDAY=TU,WE,TH;WKST=WE;COUNT=5",
                "20000105T0800", "20000106T0800", "20000111T0800", "20000119T0800", "20000120T0800");
        due("20000126T0800", "FREQ=WEEKLY;BYMONTH=2,4;COUNT=7", "20000126T0800", "20000202T0800", "20000209T0800",
                "20000216T0800", "20000223T0800", "20000405T0800", "20000412T0800");
        due("20000131T0800", "FREQ=WEEKLY;BYMONTH=1;BYDAY=MO,TU;COUNT=3",
                "20000131T0800", "20010101T0800", "20010102T0800");
    }

    private static void monthly() {
        due("20000131T2330", "FREQ=MONTHLY;COUNT=3", "20000131T2330", "20000331T2330", "20000531T2330");
        due("20000130T0000", "FREQ=MONTHLY;INTERVAL=13;COUNT=3", "20000130T0000", "20020330T0000", "20030430T0000");
        due("20000115T0000", "FREQ=MONTHLY;BYMONTHDAY=-31,31,-1;COUNT=5",
                "20000115T0000", "20000131T0000", "20000229T0000", "20000301T0000", "20000331T0000");
        due("20000120T0000", "FREQ=MONTHLY;BYMONTH=2,12;COUNT=4",
                "20000120T0000", "20000220T0000", "20001220T0000", "20010220T0000");
        due("20000101T0000", "FREQ=MONTHLY;BYDAY=SU;COUNT=4",
                "20000101T0000", "20000102T0000", "20000109T0000", "20000116T0000");
        due("20000101T0000", "FREQ=MONTHLY;BYDAY=FR;BYMONTHDAY=13;COUNT=3",
                "20000101T0000", "20001013T0000", "20010413T0000");
        due("20001231T0000", "FREQ=MONTHLY;INTERVAL=12;COUNT=2", "20001231T0000", "20011231T0000");
        due("20000330T0000", "FREQ=MONTHLY;BYMONTH=2", "20000330T0000");
    }

    private static void yearly() {
        due("20000229T0000", "FREQ=YEARLY", "20000229T0000", "20040229T0000", "20080229T0000", "20120229T0000",
                "20160229T0000");
        due("20010310T0000", "FREQ=YEARLY;INTERVAL=9", "20010310T0000", "20100310T0000", "20190310T0000");
        due("20000831T0000", "FREQ=YEARLY;BYMONTH=9,10;COUNT=3", "20000831T0000", "20001031T0000", "20011031T0000");
        due("20001130T0000", "FREQ=YEARLY;BYMONTHDAY=1,-2;COUNT=4",
                "20001130T0000", "20001201T0000", "20001230T0000", "20010101T0000");
        due("20001130T0000", "FREQ=YEARLY;BYMONTHDAY=1;BYMONTH=12,2;COUNT=4",
                "20001130T0000", "20001201T0000", "20010201T0000", "20011201T0000");
        due("20001230T0000", "FREQ=YEARLY;BYDAY=MO;COUNT=3", "20001230T0000", "20010101T0000", "20010108T0000");
        due("20001130T0000", "FREQ=YEARLY;BYDAY=MO;BYMONTH=12;COUNT=6", "20001130T0000", "20001204T0000",
                "20001211T0000", "20001218T0000", "20001225T0000", "20011203T0000");
        due("20000105T0000", "FREQ=YEARLY;INTERVAL=2;BYMONTHDAY=6;BYMONTH=1;COUNT=3",
                "20000105T0000", "20000106T0000", "20020106T0000");
        due("20000105T0000", "FREQ=YEARLY;INTERVAL=99", "20000105T0000");
    }

    private static void numberedWeekdays() {
        due("20000101T0000", "FREQ=MONTHLY;BYDAY=1SA,-1SU,5MO;COUNT=6", "20000101T0000", "20000130T0000",
                "20000131T0000", "20000205T0000", "20000227T0000", "20000304T0000");
        due("20000101T0000", "FREQ=MONTHLY;BYDAY=-5SA,5SA;COUNT=5", "20000101T0000", "20000129T0000",
                "20000401T0000", "20000429T0000", "20000701T0000");
        due("20000101T0000", "FREQ=MONTHLY;BYDAY=6MO,-6MO,53TU", "20000101T0000");
        due("20000101T0000", "FREQ=MONTHLY;BYDAY=2TU,FR;BYMONTH=1;COUNT=4",
                "20000101T0000", "20000107T0000", "20000111T0000", "20000114T0000");
        due("20000101T0000", "FREQ=YEARLY;BYDAY=1MO,-1MO;COUNT=5", "20000101T0000", "20000103T0000",
                "20001225T0000", "20010101T0000", "20011231T0000");
        due("20000102T0000", "FREQ=YEARLY;BYDAY=53SU,-53SA", "20000102T0000", "20001231T0000", "20050101T0000",
                "20061231T0000", "20110101T0000", "20121230T0000", "20160102T0000", "20171231T0000");
        due("20000101T0000", "FREQ=YEARLY;BYMONTH=5,9;BYDAY=-1MO,1MO;COUNT=5", "20000101T0000", "20000501T0000",
                "20000529T0000", "20000904T0000", "20000925T0000");
        due("20000101T0000", "FREQ=YEARLY;BYMONTH=5;BYDAY=20MO", "20000101T0000");
        due("20000101T0000", "FREQ=YEARLY;BYDAY=9MO,-9TU;COUNT=3", "20000101T0000", "20000228T0000", "20001031T0000");
        due("20000101T0000", "FREQ=YEARLY;BYDAY=20MO;COUNT=2", "20000101T0000", "20000515T0000");
        due("20000101T0000", "FREQ=YEARLY;BYDAY=1MO;BYMONTHDAY=1;COUNT=3",
                "20000101T0000", "20010101T0000", "20070101T0000");
    }

    private static void setPositions() {
        due("20000101T0000", "FREQ=MONTHLY;BYDAY=MO,TU,WE,TH,FR;BYSETPOS=-1,1;COUNT=5", "20000101T0000",
                "20000103T0000", "20000131T0000", "20000201T0000", "20000229T0000");
        due("20000115T0000", "FREQ=MONTHLY;BYMONTHDAY=10,20,30;BYSETPOS=2;COUNT=3",
                "20000115T0000", "20000120T0000", "20000220T0000");
        due("20000125T0000", "FREQ=MONTHLY;BYMONTHDAY=10,20,30;BYSETPOS=2,-3,3;COUNT=4",
                "20000125T0000", "20000130T0000", "20000220T0000", "20000310T0000");
        due("20000105T0000", "FREQ=WEEKLY;BYDAY=TU,TH,SA;BYSETPOS=1,3;COUNT=4",
                "20000105T0000", "20000108T0000", "20000111T0000", "20000115T0000");
        due("20000105T0000", "FREQ=YEARLY;BYDAY=SU;BYSETPOS=52,-52;COUNT=5", "20000105T0000", "20000109T0000",
                "20001224T0000", "20010107T0000", "20011230T0000");
        due("20000105T0000", "FREQ=YEARLY;BYMONTH=3,7;BYSETPOS=-1;COUNT=3",
                "20000105T0000", "20000705T0000", "20010705T0000");
        due("20000105T0000", "FREQ=DAILY;BYDAY=MO;BYSETPOS=-1;COUNT=2", "20000105T0000", "20000110T0000");
        due("20000105T0000", "FREQ=DAILY;BYDAY=MO;BYSETPOS=2", "20000105T0000");
        due("20000105T0000", "FREQ=MONTHLY;BYDAY=FR;BYSETPOS=99,-99,98,-98,97,-97,96,1;COUNT=3",
                "20000105T0000", "20000107T0000", "20000204T0000");
        due("20000105T0000", "FREQ=MONTHLY;BYDAY=53MO,53TU,53WE,53TH,53FR,53SA,53SU,1FR;COUNT=3",
                "20000105T0000", "20000107T0000", "20000204T0000");
        due("20000105T0000", "FREQ=MONTHLY;BYMONTH=1;BYMONTHDAY=7,7,8;BYSETPOS=2,2,2;COUNT=2",
                "20000105T0000", "20000108T0000");
    }

    private static void everyMonth() {
        for (int year : new int[] {2000, 2019}) {
            List<String> ends = new ArrayList<>();
            for (int month = 1; month <= 12; month++) {
                int length = java.time.YearMonth.of(year, month).lengthOfMonth();
                ends.add(String.format("%d%02d01T0000", year, month));
                ends.add(String.format("%d%02d%02dT0000", year, month, length));
            }
            due(year + "0101T0000", "FREQ=MONTHLY;BYMONTHDAY=1,-1;COUNT=24", ends.toArray(new String[0]));
        }
        List<String> lastDays = new ArrayList<>();
        lastDays.add("20000101T0000");
        for (int year = 2000; year <= 2019; year++) {
            lastDays.add(year + "1231T0000");
        }
        due("20000101T0000", "FREQ=DAILY;BYMONTH=12;BYMONTHDAY=31", lastDays.toArray(new String[0]));
        due("20000101T0000", "FREQ=YEARLY;BYMONTH=12;BYMONTHDAY=31", lastDays.toArray(new String[0]));
    }

    /** What one rule said is forgotten with the next one. */
    private static void rulesOneAfterAnother() {
        String[] rules = {
            "FREQ=YEARLY;INTERVAL=3;COUNT=9;BYMONTH=2,5;BYMONTHDAY=-1,3;BYDAY=MO,TU,WE,TH,FR,1SA,-1SA;BYSETPOS=1,2",
            "FREQ=MONTHLY;UNTIL=20001231T0000;BYMONTHDAY=-2,4;BYMONTH=7;BYSETPOS=-1,1", "FREQ=MONTHLY;BYDAY=2SU,SA",
            "FREQ=WEEKLY;INTERVAL=2;WKST=SU;BYDAY=MO,SU;BYMONTH=12", "FREQ=WEEKLY;INTERVAL=2;BYDAY=MO,SU",
            "FREQ=MONTHLY;BYDAY=3MO", "FREQ=MONTHLY;BYDAY=TU;BYSETPOS=3", "FREQ=DAILY", "FREQ=WEEKLY", "FREQ=YEARLY"};
        for (String before : rules) {
            for (String behind : rules) {
                String[] lines = {"DTSTART:20000107T0100", "DURATION:PT1M", "RRULE:" + behind};
                Check.equal(before + " before " + behind, Check.instancesOf(new RecurrenceDesk(), lines), () -> {
                    RecurrenceDesk desk = new RecurrenceDesk();
                    Check.book(desk, 0, "DTSTART:20070107T0100", "DURATION:PT2M", "RRULE:" + before,
                            "RDATE:20000108T0100", "EXDATE:20000107T0100,20000109T0100");
                    desk.cancel(0, 0);
                    return Check.instancesOf(desk, lines);
                });
            }
        }
    }

    /** The first week has two days, the last one too. */
    private static void endsOfAllDays() {
        due("20000101T0000", "FREQ=WEEKLY;BYDAY=MO,TU,WE,TH,FR,SA,SU;BYSETPOS=2;COUNT=3",
                "20000101T0000", "20000102T0000", "20000104T0000");
        due("20000101T0000", "FREQ=WEEKLY;BYDAY=MO,TU,WE,TH,FR,SA,SU;BYSETPOS=7;COUNT=2",
                "20000101T0000", "20000109T0000");
        due("20191223T0000", "FREQ=WEEKLY;BYDAY=MO,TU,WE,TH,FR,SA,SU;BYSETPOS=-1",
                "20191223T0000", "20191229T0000", "20191231T0000");
        due("20191231T2359", "FREQ=DAILY", "20191231T2359");
        due("20191229T2359", "FREQ=DAILY", "20191229T2359", "20191230T2359", "20191231T2359");
        due("20191101T0000", "FREQ=MONTHLY", "20191101T0000", "20191201T0000");
        due("20191230T0000", "FREQ=WEEKLY;WKST=TU;BYDAY=TU", "20191230T0000", "20191231T0000");
        due("20191230T0000", "FREQ=WEEKLY;WKST=TU;INTERVAL=2;BYDAY=TU", "20191230T0000");
    }

    private static void countAndUntil() {
        due("20000101T0930", "FREQ=DAILY;COUNT=1", "20000101T0930");
        due("20000101T0930", "FREQ=WEEKLY;BYDAY=MO;COUNT=2", "20000101T0930", "20000103T0930");
        due("20000101T0930", "FREQ=DAILY;UNTIL=20000103T0930", "20000101T0930", "20000102T0930", "20000103T0930");
        due("20000101T0930", "FREQ=DAILY;UNTIL=20000103T0929", "20000101T0930", "20000102T0930");
        due("20000105T0930", "FREQ=DAILY;UNTIL=20000101T0000", "20000105T0930");
        due("20000101T0930", "FREQ=WEEKLY;BYDAY=MO;UNTIL=20000103T0930", "20000101T0930", "20000103T0930");
    }

    private static void addedAndLeftOut() {
        String start = "DTSTART:20000105T0800";
        String length = "DURATION:PT1M";
        String rule = "RRULE:FREQ=DAILY;COUNT=3";
        due(new String[] {start, length, rule, "EXDATE:20000106T0800"}, "20000105T0800", "20000107T0800");
        due(new String[] {start, length, rule, "EXDATE:20000105T0800"}, "20000106T0800", "20000107T0800");
        due(new String[] {start, length, rule, "EXDATE:20000106T0801"},
                "20000105T0800", "20000106T0800", "20000107T0800");
        due(new String[] {start, length, rule, "EXDATE:20000107T0800,20000106T0800,20000105T0800"});
        due(new String[] {start, length, "EXDATE:20000105T0800"});
        due(new String[] {start, length, "RDATE:20000104T0000,20000105T0800,20000106T1200,20000104T0000"},
                "20000104T0000", "20000105T0800", "20000106T1200");
        due(new String[] {start, length, rule, "RDATE:20000106T0759,20000106T0800,20000106T0801"},
                "20000105T0800", "20000106T0759", "20000106T0800", "20000106T0801", "20000107T0800");
        due(new String[] {start, length, "RDATE:20000106T1200,20000107T1200", "EXDATE:20000106T1200",
            "RDATE:20000106T1200"}, "20000105T0800", "20000107T1200");
        due(new String[] {start, length, "EXDATE:20000106T1200", "RDATE:20000106T1200"}, "20000105T0800");
        due(new String[] {start, length,
            "RDATE:20000112T0800,20000111T0800,20000110T0800,20000109T0800,20000108T0800,20000107T0800",
            "RDATE:20000106T0800,20000104T0800,20000103T0800,20000102T0800,20000101T0800,20000101T0801",
            "RDATE:20000113T0800"}, "20000101T0800", "20000101T0801", "20000102T0800", "20000103T0800",
                "20000104T0800", "20000105T0800", "20000106T0800", "20000107T0800", "20000108T0800", "20000109T0800",
                "20000110T0800", "20000111T0800", "20000112T0800", "20000113T0800");
    }

    private static void atMostForty() {
        String[] forty = new String[40];
        for (int i = 0; i < 40; i++) {
            forty[i] = i < 31 ? String.format("200001%02dT0800", i + 1) : String.format("200002%02dT0800", i - 30);
        }
        due("20000101T0800", "FREQ=DAILY", forty);
        due("20000101T0800", "FREQ=DAILY;COUNT=41", forty);
        due("20000101T0800", "FREQ=DAILY;COUNT=40", forty);
        String[] thirtyNine = java.util.Arrays.copyOf(forty, 39);
        due("20000101T0800", "FREQ=DAILY;COUNT=39", thirtyNine);
        String[] lines = {"DTSTART:20000101T0800", "DURATION:PT1M", "RRULE:FREQ=DAILY", ""};
        String[] later = java.util.Arrays.copyOfRange(forty, 2, 42);
        later[38] = "20000210T0800";
        later[39] = "20000211T0800";
        lines[3] = "EXDATE:20000102T0800,20000101T0800";
        due(lines, later);
        String[] earlier = new String[40];
        System.arraycopy(forty, 0, earlier, 1, 39);
        earlier[0] = "20000101T0759";
        lines[3] = "RDATE:20000301T0800,20000101T0759";
        due(lines, earlier);
        lines[3] = "RDATE:20000209T0801";
        due(lines, forty);
        lines[2] = "RRULE:FREQ=DAILY;COUNT=38";
        lines[3] = "RDATE:20000208T0800,20000209T0800,20000209T0801";
        due(lines, forty);
    }

    private static void inZones() {
        RecurrenceDesk desk = new RecurrenceDesk();
        desk.change(1, Check.minute("20000103T0200"), 60);
        desk.change(1, Check.minute("20000105T0100"), 0);
        List<Integer> want = List.of(
                Check.minute("20000102T0230"), Check.minute("20000103T0230"), Check.minute("20000104T0130"),
                Check.minute("20000105T0230"), Check.minute("20000106T0230"));
        Check.equal("in a zone", want, () -> Check.instancesOf(desk, "DTSTART;TZID=1:20000102T0230", "DURATION:PT9M",
                "RRULE:FREQ=DAILY;UNTIL=20000106T0230"));
        desk.change(1, Check.minute("20000105T1200"), -60);
        Check.equal("a change behind the booking", want.get(4), () -> desk.instance(0, 0, 4));
        Check.book(desk, 1, "DTSTART:20000106T0230", "DURATION:PT9M");
        Check.equal("without a zone", want.get(4), () -> desk.instance(1, 0, 0));
        Check.book(desk, 1, "DTSTART;TZID=1:20000106T0230", "DURATION:PT9M");
        Check.equal("with the new change", Check.minute("20000106T0330"), () -> desk.instance(1, 1, 0));
        Check.book(desk, 1, "DTSTART;TZID=0:20000106T0230", "DURATION:PT9M");
        Check.equal("in another zone", want.get(4), () -> desk.instance(1, 2, 0));
        orderStays();
    }

    /** Local minutes that clocks jump over may come to lie before or on other ones. */
    private static void orderStays() {
        RecurrenceDesk desk = new RecurrenceDesk();
        desk.change(0, 1000, 60);
        Check.equal("order and doubles stay", List.of(990, 1030, 1059, 1000, 1030),
                () -> Check.instancesOf(desk, "DTSTART;TZID=0:20000101T1630", "DURATION:PT1M",
                        "RDATE:20000101T1710,20000101T1739,20000101T1740,20000101T1810"));
        Check.equal("stretches", 4, () -> desk.stretches(0));
    }
}
