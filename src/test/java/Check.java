import java.util.ArrayList;
import java.util.List;
import java.util.Objects;

/** What the tests share: comparing, typing texts, and ending with the right exit code. */
final class Check {
    static final int BAD = -1000000;
    static final int LAST_MINUTE = 10519199;

    private static int checks = 0;
    private static int wrong = 0;

    private Check() {
    }

    interface Call {
        Object answer();
    }

    static void equal(String call, Object want, Call asked) {
        checks++;
        String got = answerOf(asked);
        if (!Objects.equals(got, String.valueOf(want))) {
            wrong++;
            System.out.println(call + " answered " + got + ", due is " + want);
        }
    }

    /** The call must throw exactly the named exception. */
    static void refused(String call, Class<? extends RuntimeException> kind, Call asked) {
        equal(call, "throws." + kind.getSimpleName(), asked);
    }

    static String answerOf(Call asked) {
        try {
            return String.valueOf(asked.answer());
        } catch (RuntimeException e) {
            return "throws." + e.getClass().getSimpleName();
        }
    }

    /** Types a text in pieces of at most eight characters: what the last piece answered. */
    static int type(RecurrenceDesk desk, String text) {
        int size = 0;
        for (int i = 0; i < text.length(); i += 8) {
            String piece = text.substring(i, Math.min(i + 8, text.length()));
            size = desk.type(packed(piece), piece.length());
        }
        return size;
    }

    static long packed(String piece) {
        long characters = 0;
        for (int i = 0; i < piece.length(); i++) {
            characters = characters << 8 | piece.charAt(i);
        }
        return characters;
    }

    /** Types an event's lines, each with a line end behind it, and books it. */
    static int book(RecurrenceDesk desk, int person, String... lines) {
        type(desk, text(lines));
        return desk.book(person);
    }

    static String text(String... lines) {
        StringBuilder text = new StringBuilder();
        for (String line : lines) {
            text.append(line).append('\n');
        }
        return text.toString();
    }

    /** The text is an event, and booking it uses it up. */
    static void event(String text) {
        equal("an event: " + text, true, () -> {
            RecurrenceDesk desk = new RecurrenceDesk();
            type(desk, text);
            return desk.book(0) >= 0 && desk.events(0) == 1 && desk.wipe() == 0;
        });
    }

    /** The text is refused, and stays. */
    static void noEvent(String text) {
        RecurrenceDesk desk = new RecurrenceDesk();
        type(desk, text);
        refused("no event: " + text, IllegalArgumentException.class, () -> desk.book(0));
        equal("text behind it", text.length(), desk::wipe);
        equal("events behind it", 0, () -> desk.events(0));
    }

    /** Books an event without a zone and compares all its instances with times written as in a text. */
    static void due(String[] lines, String... times) {
        List<Integer> want = new ArrayList<>();
        for (String time : times) {
            want.add(minute(time));
        }
        equal(String.join(" ", lines), want, () -> instancesOf(new RecurrenceDesk(), lines));
    }

    /** Books an event as person 0's first one: all its instances. */
    static List<Integer> instancesOf(RecurrenceDesk desk, String... lines) {
        int size = book(desk, 0, lines);
        List<Integer> got = new ArrayList<>();
        for (int i = 0; i < desk.instances(0, 0); i++) {
            got.add(desk.instance(0, 0, i));
        }
        equal("what book answered", got.size(), () -> size);
        equal("the instance behind the last", BAD, () -> desk.instance(0, 0, size));
        return got;
    }

    /** A minute written as in a text, e.g. 20000131T2330. */
    static int minute(String time) {
        java.time.LocalDateTime at = java.time.LocalDateTime.of(
                Integer.parseInt(time.substring(0, 4)), Integer.parseInt(time.substring(4, 6)),
                Integer.parseInt(time.substring(6, 8)), Integer.parseInt(time.substring(9, 11)),
                Integer.parseInt(time.substring(11, 13)));
        return (int) java.time.Duration.between(java.time.LocalDateTime.of(2000, 1, 1, 0, 0), at).toMinutes();
    }

    static void finish() {
        System.out.println(checks + " checks, " + wrong + " wrong");
        if (wrong != 0) {
            System.exit(1);
        }
    }
}
