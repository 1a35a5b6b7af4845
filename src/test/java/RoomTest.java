import java.lang.reflect.Array;
import java.lang.reflect.Field;
import java.lang.reflect.Modifier;
import java.util.Collections;
import java.util.IdentityHashMap;
import java.util.Set;

/** What 512 of the dearest calls make must stay far below 600,000 objects and 7.3 million cells. */
public final class RoomTest {
    private static final int CALLS = 512;
    private static final int OBJECTS = 600_000;
    private static final int CELLS = 7_300_000;

    private final Set<Object> seen = Collections.newSetFromMap(new IdentityHashMap<>());
    private int cells;

    public static void main(String[] args) throws IllegalAccessException {
        RoomTest before = new RoomTest();
        GhostRooms x = new GhostRooms();
        before.walk(x);
        Check.yes("objects of 512 constructor calls: " + before.seen.size(), before.seen.size() * CALLS < OBJECTS / 2);
        Check.yes("cells of 512 constructor calls: " + before.cells, before.cells * CALLS < CELLS / 2);
        useAll(x);
        RoomTest after = new RoomTest();
        after.walk(x);
        Check.due("objects that calls leave behind", after.seen.size(), before.seen.size());
        allocations(x);
        Check.end();
    }

    private void walk(Object object) throws IllegalAccessException {
        if (object == null || !seen.add(object)) {
            return;
        }
        if (object.getClass().isArray()) {
            int length = Array.getLength(object);
            cells += length;
            for (int i = 0; i < length && !object.getClass().getComponentType().isPrimitive(); i++) {
                walk(Array.get(object, i));
            }
            return;
        }
        for (Field field : object.getClass().getDeclaredFields()) {
            if (!Modifier.isStatic(field.getModifiers())) {
                cells++;
                field.setAccessible(true);
                if (!field.getType().isPrimitive()) {
                    walk(field.get(object));
                }
            }
        }
    }

    private static int useAll(GhostRooms x) {
        x.truncate(0);
        x.feed(0x686f7573, 0x653b726f, 0x6f6d2061, 0x20353b72, 0x6f6f6d20);
        x.feed(0x6220393b, 0x646f6f72, 0x20612062, 0x20323b20, 0x20202020);
        int sum = x.readText();
        x.feed(0x72657065, 0x61742032, 0x30286e69, 0x67687473, 0x2035303b);
        x.feed(0x293b2020, 0x20202020, 0x20202020, 0x20202020, 0x20202020);
        sum += x.runScript() + x.passNights(50) + x.setMode(2) + x.earnCoins(5) + x.undo();
        sum += x.nightsUntilKnown() + x.bestThermometerRoom() + x.calmestMode() + x.mostImportantDoor();
        sum += x.ghostRoomAfter(50) + x.possibleRoomsAfter(50) + x.quietestPath(0, 1) + x.violations();
        return sum + x.printReport() + x.saveState() + x.restoreState() + x.findRoom() + x.nameByte(0, 0);
    }

    // calls that throw nothing make nothing
    private static void allocations(GhostRooms x) {
        com.sun.management.ThreadMXBean bean =
                (com.sun.management.ThreadMXBean) java.lang.management.ManagementFactory.getThreadMXBean();
        long id = Thread.currentThread().getId();
        GhostRooms[] objects = {new GhostRooms(), new GhostRooms(), new GhostRooms()};
        int sum = useAll(x);
        long empty = bean.getThreadAllocatedBytes(id);
        empty = bean.getThreadAllocatedBytes(id) - empty;
        long start = bean.getThreadAllocatedBytes(id);
        for (int i = 0; i < 50; i++) {
            sum += useAll(objects[i % objects.length]);
        }
        long bytes = bean.getThreadAllocatedBytes(id) - start - empty;
        Check.yes("bytes made by 1,150 calls: " + bytes + " (" + sum + ")", bytes < 4096);
    }
}
