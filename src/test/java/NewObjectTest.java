import java.lang.reflect.Constructor;
import java.lang.reflect.Field;
import java.lang.reflect.Method;
import java.lang.reflect.Modifier;
import java.util.Arrays;
import java.util.Set;
import java.util.TreeSet;

/** Promise 1, and the face of the class. */
final class NewObjectTest {
    public static void main(String[] args) {
        hasNothing();
        objectsAreApart();
        faceIsTheDocuments();
        Check.finish();
    }

    private static void hasNothing() {
        RecurrenceDesk desk = new RecurrenceDesk();
        for (int p = 0; p < 4; p++) {
            int person = p;
            Check.equal("events", 0, () -> desk.events(person));
            Check.equal("instances", Check.BAD, () -> desk.instances(person, 0));
            Check.equal("stretches", 0, () -> desk.stretches(person));
            Check.equal("busy", false, () -> desk.busy(person, 0));
        }
        for (int z = 0; z < 3; z++) {
            int zone = z;
            Check.equal("world", 0, () -> desk.world(zone, 0));
            Check.equal("world", Check.LAST_MINUTE, () -> desk.world(zone, Check.LAST_MINUTE));
            Check.equal("first change", 1, () -> desk.change(zone, 0, 0));
        }
        Check.refused("book of an empty text", IllegalArgumentException.class, () -> desk.book(0));
        Check.equal("wipe", 0, desk::wipe);
    }

    private static void objectsAreApart() {
        RecurrenceDesk one = new RecurrenceDesk();
        RecurrenceDesk other = new RecurrenceDesk();
        Check.book(one, 0, "DTSTART:20000101T0000", "DURATION:PT5M");
        one.change(0, 10, 60);
        one.type('x', 1);
        Check.equal("events of the other", 0, () -> other.events(0));
        Check.equal("world of the other", 10, () -> other.world(0, 10));
        Check.equal("world of the other", 70, () -> other.world(0, 70));
        Check.equal("text of the other", 0, other::wipe);
    }

    private static void faceIsTheDocuments() {
        Class<?> face = RecurrenceDesk.class;
        Check.equal("BAD", -1000000, () -> RecurrenceDesk.BAD);
        Check.equal("class is public and final", true,
                () -> Modifier.isPublic(face.getModifiers()) && Modifier.isFinal(face.getModifiers()));
        Set<String> want = new TreeSet<>(Set.of(
                "int BAD", "RecurrenceDesk()",
                "int change(int, int, int) IllegalArgumentException IllegalStateException",
                "int type(long, int)", "int wipe()",
                "int book(int) IllegalArgumentException IllegalStateException",
                "int cancel(int, int) IllegalArgumentException"));
        want.addAll(Set.of(
                "int events(int)", "int instances(int, int)", "int instance(int, int, int)",
                "int world(int, int)", "boolean busy(int, int)", "int stretches(int)",
                "int stretch(int, int, int)",
                "int slot(int, int, int, int) IllegalArgumentException NoSuchElementException"));
        Check.equal("members that are not private", want, () -> openMembers(face));
    }

    private static Set<String> openMembers(Class<?> face) {
        Set<String> open = new TreeSet<>();
        for (Field field : face.getDeclaredFields()) {
            if (!Modifier.isPrivate(field.getModifiers())) {
                open.add(field.getType().getSimpleName() + " " + field.getName());
            }
        }
        for (Constructor<?> made : face.getDeclaredConstructors()) {
            open.add(made.getName() + names(made.getParameterTypes()));
        }
        for (Method method : face.getDeclaredMethods()) {
            if (!Modifier.isPrivate(method.getModifiers())) {
                StringBuilder written = new StringBuilder(method.getReturnType().getSimpleName());
                written.append(' ').append(method.getName()).append(names(method.getParameterTypes()));
                for (Class<?> thrown : method.getExceptionTypes()) {
                    written.append(' ').append(thrown.getSimpleName());
                }
                open.add(written.toString());
            }
        }
        return open;
    }

    private static String names(Class<?>[] types) {
        String row = Arrays.toString(Arrays.stream(types).map(Class::getSimpleName).toArray());
        return "(" + row.substring(1, row.length() - 1) + ")";
    }
}
