import java.lang.reflect.Array;
import java.lang.reflect.Field;
import java.lang.reflect.Modifier;
import java.util.ArrayDeque;
import java.util.Collections;
import java.util.Deque;
import java.util.IdentityHashMap;
import java.util.Set;

/**
 * The room that an object takes. All calls of a run share one room; LanguageTest sees to it that methods make
 * nothing, so a run takes what its objects take. Were each of 512 calls a new object, they should still fit.
 */
public final class RoomTest {
    private static final int ROOM_OBJECTS = 600_000, ROOM_FIELDS = 7_300_000, CALLS = 512;

    private final Set<Object> met = Collections.newSetFromMap(new IdentityHashMap<>());
    private final Deque<Object> toLookAt = new ArrayDeque<>();
    private int fields = 0;

    private void meet(Object one) {
        if (one != null && met.add(one)) {
            toLookAt.add(one);
        }
    }

    private void lookAt(Object one) throws IllegalAccessException {
        if (one.getClass().isArray()) {
            fields += Array.getLength(one);
            for (int i = 0; one instanceof Object[] && i < Array.getLength(one); i++) {
                meet(Array.get(one, i));
            }
            return;
        }
        for (Field field : one.getClass().getDeclaredFields()) {
            if (!Modifier.isStatic(field.getModifiers())) {
                fields++;
                field.setAccessible(true);
                if (!field.getType().isPrimitive()) {
                    meet(field.get(one));
                }
            }
        }
    }

    private void count(LaterJury x) throws IllegalAccessException {
        meet(x);
        while (!toLookAt.isEmpty()) {
            lookAt(toLookAt.remove());
        }
    }

    private static RoomTest roomOf(LaterJury x) throws IllegalAccessException {
        RoomTest room = new RoomTest();
        room.count(x);
        return room;
    }

    /** Each call that could be dear, with as much told as can be. */
    private static void useAll(LaterJury x) {
        Check.type(x, "y16;s12 0 1 2 0;s3 0 2 0 1;s9 0 0 0 5;s8 1 3 3 3;t0 1 15;t5 6 15;t10 11 15;q2;d2 0;d0 1;d1 2;d5 0;");
        Check.due("court()", x.court(), 13);
        for (int i = 0; i < 12; i++) {
            x.does(i, i % 4);
            x.takes(0);
            x.help(i % 3, 0);
            x.strikes(0, i % 3, 1);
            x.innocent(i % 3);
            x.saw(i, 0);
            x.fits();
            x.keep(i % 2);
            x.mark(i % 6, 0);
            x.ring(0);
        }
        x.undo();
        x.back(0);
    }

    public static void main(String[] args) throws IllegalAccessException {
        LaterJury x = new LaterJury();
        RoomTest first = roomOf(x);
        System.out.println("a new object: " + first.met.size() + " objects and arrays, " + first.fields + " fields and elements");
        Check.due("512 new ones have room", first.met.size() <= ROOM_OBJECTS / CALLS ? 1 : 0, 1);
        Check.due("their fields have room", first.fields <= ROOM_FIELDS / CALLS ? 1 : 0, 1);
        useAll(x);
        RoomTest then = roomOf(x);
        // the reader's first, empty row is let go for the text's
        Check.due("no object came by its use", then.met.size() <= first.met.size() ? 1 : 0, 1);
        Check.due("no field came by its use", then.fields <= first.fields ? 1 : 0, 1);
        Check.end();
    }
}
