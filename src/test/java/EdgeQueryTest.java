import java.lang.reflect.Field;

/** The edges of promises 20 to 34, 38 to 40, 62 and 63: rooms, doors, paths, means and the report. */
public final class EdgeQueryTest {
    private static final int NONE = GhostRooms.NONE;
    private static final int[] FAR = {Integer.MIN_VALUE, -1, 12, 24, 31, 32, 33, Integer.MAX_VALUE};

    private interface Query {
        Object at(GhostRooms x, int index);
    }

    public static void main(String[] args) {
        roomIndexes();
        doorIndexes();
        twoRoomIndexes();
        possibleRooms();
        nameBytes();
        findRoom();
        ranks();
        lowAndHighRoom();
        doorBetween();
        quietestPaths();
        longestPath();
        noPath();
        violations();
        brokenHouse();
        meanColdness();
        possibleFraction();
        emptyReport();
        reportLines();
        longestReport();
        outputBytes();
        outputReplaced();
        Check.end();
    }

    // Promise 21: "Throws `IndexOutOfBoundsException` if room is invalid"
    // Promise 21: "`room`: index of a room"
    // Promise 23: "Throws `IndexOutOfBoundsException` if room is invalid"
    // Promise 24: "Throws `IndexOutOfBoundsException` if room is invalid"
    // Promise 25: "Throws `IndexOutOfBoundsException` if room is invalid"
    // Promise 26: "Throws `IndexOutOfBoundsException` if room is invalid"
    // Promise 35: "Throws `IndexOutOfBoundsException` if room is invalid"
    // Promise 35: "`room`: index of a room"
    // Promise 36: "Throws `IndexOutOfBoundsException` if room is invalid"
    // Promise 36: "`room`: index of a room"
    // Promise 37: "Throws `IndexOutOfBoundsException` if room is invalid"
    // Promise 37: "`room`: index of a room"
    private static void roomIndexes() {
        rooms("nameByte", (x, room) -> x.nameByte(room, 0));
        rooms("nameByte of no letter", (x, room) -> x.nameByte(room, -1));
        rooms("coldness", GhostRooms::coldness);
        rooms("hasThermometer", GhostRooms::hasThermometer);
        rooms("hasMicrophone", GhostRooms::hasMicrophone);
        rooms("neighbors", GhostRooms::neighbors);
        rooms("exclusionReason", GhostRooms::exclusionReason);
        rooms("exclusionEvidence", GhostRooms::exclusionEvidence);
        rooms("exclusionSource", GhostRooms::exclusionSource);
    }

    private static void rooms(String what, Query query) {
        for (int count : new int[] {0, 1, 2, 12}) {
            indexes(what + " of " + count, Houses.rooms(count, 5), count, query);
        }
    }

    // Promise 28: "Throws `IndexOutOfBoundsException` if door is invalid"
    // Promise 29: "Throws `IndexOutOfBoundsException` if door is invalid"
    // Promise 30: "Throws `IndexOutOfBoundsException` if door is invalid"
    // Promise 31: "Throws `IndexOutOfBoundsException` if door is invalid"
    // Promise 32: "Throws `IndexOutOfBoundsException` if door is invalid"
    private static void doorIndexes() {
        doors("lowRoom", GhostRooms::lowRoom);
        doors("highRoom", GhostRooms::highRoom);
        doors("noise", GhostRooms::noise);
        doors("isOpen", GhostRooms::isOpen);
        doors("isMonitored", GhostRooms::isMonitored);
    }

    private static void doors(String what, Query query) {
        for (int count : new int[] {0, 1, 2, 24}) {
            indexes(what + " of " + count, Houses.rooms(8, 5) + Houses.doors(count, 9), count, query);
        }
    }

    // Promise 33: "Throws `IndexOutOfBoundsException` if a room is invalid"
    // Promise 33: "`room`: index of a room - `other`: index of a room"
    // Promise 34: "Throws `IndexOutOfBoundsException` if a room is invalid"
    // Promise 34: "`room`: index of a room - `other`: index of a room"
    private static void twoRoomIndexes() {
        rooms("doorBetween, the first", (x, room) -> x.doorBetween(room, 0));
        rooms("doorBetween, the second", (x, room) -> x.doorBetween(0, room));
        rooms("doorBetween, both", (x, room) -> x.doorBetween(room, room));
        rooms("quietestPath, the first", (x, room) -> x.quietestPath(room, 0));
        rooms("quietestPath, the second", (x, room) -> x.quietestPath(0, room));
        rooms("quietestPath, both", (x, room) -> x.quietestPath(room, room));
    }

    private static void indexes(String what, String text, int count, Query query) {
        GhostRooms x = Houses.house(text);
        for (int index = 0; index < count; index++) {
            int taken = index;
            Check.due(what + " at " + index, Check.thrownBy(() -> query.at(x, taken)), "nothing");
        }
        Check.throwsThe(Check.INDEX, what + " at " + count, () -> query.at(x, count));
        for (int index : FAR) {
            if (index < 0 || index >= count) {
                Check.throwsThe(Check.INDEX, what + " at " + index, () -> query.at(x, index));
            }
        }
    }

    // Promise 20: "Returns the set of possible rooms."
    // Rest: "Sets of rooms are bit masks: bit i stands for room i."
    private static void possibleRooms() {
        for (int count = 0; count <= 12; count++) {
            Check.due(count + " rooms", Houses.house(Houses.rooms(count, 5)).possibleRooms(), (1 << count) - 1);
        }
        for (int room = 0; room < 12; room++) {
            GhostRooms x = Houses.house(Houses.rooms(12, 5) + Houses.star(room, 12, 1) + Houses.ghost(room));
            Check.due("neighbors of room " + room, x.neighbors(room), 0xfff & ~(1 << room));
            Check.yes("a seance for bit " + room, x.holdSeance(1 << room));
            Check.due("room " + room + " alone", x.possibleRooms(), 1 << room);
        }
    }

    // Promise 21: "Returns the byte; NONE if the name has no such byte."
    // Promise 21: "Returns a byte of a room name."
    // Promise 21: "`index`: index into the name, any int"
    private static void nameBytes() {
        String letters = "zyxwvutsrqponmlkjihgfedcba";
        for (int length = 1; length <= 8; length++) {
            GhostRooms x = Houses.house("house;room " + letters.substring(0, length) + " 5;");
            for (int i = 0; i < length; i++) {
                Check.due("byte " + i + " of " + length, x.nameByte(0, i), (int) letters.charAt(i));
            }
            for (int i : new int[] {Integer.MIN_VALUE, -8, -1, length, length + 1, 8, 9, Integer.MAX_VALUE}) {
                Check.due("byte " + i + " of " + length, x.nameByte(0, i), NONE);
            }
        }
    }

    // Promise 22: "Finds the room whose name equals the whole input buffer, which is kept."
    // Promise 22: "Returns the index of the room; NONE if there is none."
    private static void findRoom() {
        GhostRooms x = Houses.house("house;room abcdefgh 5;room b 5;room bc 5;room z 5;");
        Check.due("an empty buffer", x.findRoom(), NONE);
        String[] found = {"abcdefgh", "b", "bc", "z"};
        for (int room = 0; room < found.length; room++) {
            Houses.feed(x, found[room]);
            Check.due(found[room], x.findRoom(), room);
            Check.due("it is kept", x.findRoom(), room);
            Check.due("to its length", x.truncate(found[room].length()), found[room].length());
        }
        for (String other : new String[] {"abcdefg", "abcdefghi", "aabcdefgh", "abcdefgh ", "bb", "c", "B", "b ", " b",
            "b\0", "\0b", "b;", "1", "\u00e2"}) {
            Houses.feed(x, other);
            Check.due("'" + other + "'", x.findRoom(), NONE);
        }
        Houses.feed(x, "b".repeat(600));
        Check.due("600 bytes", x.findRoom(), NONE);
        Check.due("they are kept", x.truncate(600), 600);
        GhostRooms y = new GhostRooms();
        Check.due("an empty house and an empty buffer", y.findRoom(), NONE);
        Houses.feed(y, "a");
        Check.due("an empty house", y.findRoom(), NONE);
        y.addRoom(5);
        y.undo();
        Houses.feed(y, "a");
        Check.due("a room that was undone", y.findRoom(), NONE);
    }

    // Promise 27: "Returns the room; NONE if there is no such rank."
    // Promise 27: "`rank`: rank from 0, any int"
    private static void ranks() {
        GhostRooms same = Houses.house(Houses.rooms(12, 99));
        GhostRooms rising = new GhostRooms();
        for (int room = 0; room < 12; room++) {
            Houses.addRoom(rising, String.valueOf(Houses.letter(room)), room == 11 ? 99 : room);
        }
        for (int rank = 0; rank < 12; rank++) {
            Check.due("as cold, rank " + rank, same.roomByColdness(rank), rank);
            Check.due("rising, rank " + rank, rising.roomByColdness(rank), 11 - rank);
        }
        for (int rank : FAR) {
            Check.due("rank " + rank, same.roomByColdness(rank), NONE);
            Check.due("an empty house, rank " + rank, new GhostRooms().roomByColdness(rank), NONE);
        }
        Check.due("an empty house, rank 0", new GhostRooms().roomByColdness(0), NONE);
        GhostRooms one = Houses.house(Houses.rooms(1, 0));
        Check.due("one room", one.roomByColdness(0) + " " + one.roomByColdness(1), "0 -1");
    }

    // Promise 28: "Returns the lower-numbered room of a door. - `door`: index of a door Returns the room."
    // Promise 29: "Returns the higher-numbered room of a door. - `door`: index of a door Returns the room."
    private static void lowAndHighRoom() {
        GhostRooms x = Houses.house(Houses.rooms(12, 5) + "door l a 1;door a b 2;door l k 3;");
        x.addDoor(10, 0, 4);
        x.addDoor(1, 10, 5);
        int[][] ends = {{0, 11}, {0, 1}, {10, 11}, {0, 10}, {1, 10}};
        for (int door = 0; door < ends.length; door++) {
            Check.due("door " + door, x.lowRoom(door) + " " + x.highRoom(door), ends[door][0] + " " + ends[door][1]);
        }
    }

    // Promise 33: "Returns the door; NONE if there is none, in particular if both rooms are the same."
    // Promise 33: "Returns the door, open or closed, that connects two rooms."
    private static void doorBetween() {
        GhostRooms x = Houses.house(Houses.rooms(8, 5) + Houses.doors(24, 1));
        int door = 0;
        for (int low = 0; low < 8; low++) {
            Check.due("a room and itself", x.doorBetween(low, low), NONE);
            for (int high = low + 1; high < 8; high++) {
                int due = door < 24 ? door : NONE;
                Check.due(low + " and " + high, x.doorBetween(low, high), due);
                Check.due(high + " and " + low, x.doorBetween(high, low), due);
                door++;
            }
        }
        x.setDoorOpen(23, false);
        Check.due("a closed door", x.doorBetween(x.highRoom(23), x.lowRoom(23)), 23);
        Check.due("no door", Houses.house(Houses.rooms(2, 5)).doorBetween(0, 1), NONE);
    }

    // Promise 34: "the smallest sum of the noise levels of the open doors on a path"
    private static void quietestPaths() {
        String three = "house;room a 5;room b 5;room c 5;";
        path("noise 0", three + "door a b 0;", 0);
        path("noise 9", three + "door a b 9;", 9);
        path("a detour as loud", three + "door a b 9;door a c 4;door c b 5;", 9);
        path("a detour less loud", three + "door a b 9;door a c 4;door c b 4;", 8);
        path("a detour through silence", three + "door a b 1;door a c 0;door c b 0;", 0);
        path("a detour with a closed door", three + "door a b 9;door a c 0;door c b 0 closed;", 9);
    }

    private static void path(String what, String text, int due) {
        GhostRooms x = Houses.house(text);
        Check.due(what, x.quietestPath(0, 1), due);
        Check.due(what + ", the other way", x.quietestPath(1, 0), due);
    }

    // Promise 34: "Returns the length of the quietest path between two rooms"
    private static void longestPath() {
        StringBuilder chain = new StringBuilder(Houses.rooms(12, 5));
        for (int room = 10; room >= 0; room--) {
            chain.append("door ").append(Houses.letter(room + 1)).append(' ').append(Houses.letter(room)).append(" 9;");
        }
        GhostRooms x = Houses.house(chain.toString());
        Check.due("eleven doors of noise 9", x.quietestPath(0, 11) + " " + x.quietestPath(11, 0), "99 99");
        Check.due("ten of them", x.quietestPath(1, 11), 90);
        x.addDoor(11, 0, 9);
        Check.due("a shorter way", x.quietestPath(0, 11) + " " + x.quietestPath(1, 11), "9 18");
        Check.due("half of the ring", x.quietestPath(0, 6) + " " + x.quietestPath(0, 7), "54 45");
    }

    // Promise 34: "Returns the sum; 0 if both rooms are the same; NONE if no path of open doors exists."
    private static void noPath() {
        GhostRooms x = Houses.house(Houses.rooms(12, 5) + "door a b 9;door c d 0;door b c 3 closed;");
        for (int room = 0; room < 12; room++) {
            Check.due("the same room", x.quietestPath(room, room), 0);
        }
        Check.due("no door", x.quietestPath(0, 11), NONE);
        Check.due("a closed door between", x.quietestPath(0, 3) + " " + x.quietestPath(3, 0), "-1 -1");
        x.setDoorOpen(2, true);
        Check.due("opened", x.quietestPath(0, 3), 12);
        Check.due("one room", Houses.house(Houses.rooms(1, 5)).quietestPath(0, 0), 0);
    }

    // Promise 38: "Checks invariants. Returns the number of violations: 1 if the house has rooms and the room of the
    //     ghost is not possible, plus the number of pairs of rooms for which quietestPath() depends on the order of its
    //     arguments; always 0."
    private static void violations() {
        GhostRooms x = new GhostRooms();
        Check.due("no room", x.violations(), 0);
        Houses.addRoom(x, "a", 5);
        Check.due("one room", x.violations(), 0);
        x = Houses.house(Houses.rooms(8, 5) + Houses.doors(24, 3) + "mode 1;ghost h;");
        x.setThermometer(0, true);
        x.setMicrophone(7, true);
        for (int night = 0; night < 9; night++) {
            x.passNights(1);
            Check.due("a full house in night " + night, x.violations(), 0);
        }
        Check.due("twelve rooms apart", Houses.house(Houses.rooms(12, 5) + "ghost l;").violations(), 0);
    }

    // Promise 38: "1 if the house has rooms and the room of the ghost is not possible"
    private static void brokenHouse() {
        // no run of calls leads there, so the test itself takes the ghost's room out of the possible ones
        for (int count : new int[] {0, 1, 2, 12}) {
            GhostRooms x = Houses.house(Houses.rooms(count, 5));
            Check.due("a sound house of " + count, x.violations(), 0);
            setPossible(x, (1 << count) - 2);
            Check.due("a broken house of " + count, x.violations(), count == 0 ? 0 : 1);
        }
    }

    private static void setPossible(GhostRooms x, int rooms) {
        try {
            Field house = GhostRooms.class.getDeclaredField("house");
            house.setAccessible(true);
            Field possible = house.getType().getDeclaredField("possible");
            possible.setAccessible(true);
            possible.setInt(house.get(x), rooms);
        } catch (ReflectiveOperationException e) {
            throw new IllegalStateException("the class holds its house otherwise than brokenHouse() takes it to", e);
        }
    }

    // Promise 39: "Returns the mean coldness of all rooms. Returns the sum of the coldness values as a double divided
    //     by the number of rooms as a double; 0.0 if there is no room."
    private static void meanColdness() {
        GhostRooms x = new GhostRooms();
        Check.due("no room", x.meanColdness(), 0.0);
        Check.due("one room at 0", Houses.house(Houses.rooms(1, 0)).meanColdness(), 0.0);
        Check.due("one room at 99", Houses.house(Houses.rooms(1, 99)).meanColdness(), 99.0);
        Check.due("twelve rooms at 99", Houses.house(Houses.rooms(12, 99)).meanColdness(), 99.0);
        for (int count = 1; count <= 12; count++) {
            Houses.addRoom(x, String.valueOf(Houses.letter(count)), count == 1 ? 1 : 0);
            Check.due("1 among " + count, x.meanColdness(), 1.0 / count);
        }
        Check.due("twelve rooms, 1187 in all", Houses.house(Houses.rooms(11, 99) + "room l 98;").meanColdness(),
                1187.0 / 12.0);
    }

    // Promise 40: "Returns the fraction of rooms that are possible. Returns the number of possible rooms as a float
    //     divided by the number of rooms as a float; 0.0f if there is no room."
    private static void possibleFraction() {
        Check.due("no room", new GhostRooms().possibleFraction(), 0.0f);
        for (int count = 1; count <= 12; count++) {
            GhostRooms x = Houses.house(Houses.rooms(count, 5));
            Check.due("all of " + count, x.possibleFraction(), 1.0f);
            for (int gone = 1; gone < count; gone++) {
                x.holdSeance(1 << gone);
                int left = count - gone;
                Check.due(left + " of " + count, x.possibleFraction(), (float) left / (float) count);
            }
        }
    }

    // Promise 62: "Replaces the output by a report. It has one line for each room"
    private static void emptyReport() {
        GhostRooms x = new GhostRooms();
        Check.due("no room", x.printReport(), 0);
        Check.throwsThe(Check.INDEX, "no byte", () -> x.outputByte(0));
        Houses.addRoom(x, "a", 0);
        Check.due("one room", x.printReport(), 6);
        x.undo();
        Check.due("the output stays", Houses.output(x, 6), "a 0?!\n");
        Check.due("no room again", x.printReport(), 0);
        Check.throwsThe(Check.INDEX, "no byte again", () -> x.outputByte(0));
    }

    // Promise 62: "the name, a space, the coldness in decimal, the letter t if the room has a thermometer, the letter
    //     m if it has a microphone, a question mark if it is possible, an exclamation mark if the ghost is there, and
    //     a line feed"
    private static void reportLines() {
        for (int cold : new int[] {0, 1, 9, 10, 11, 19, 20, 90, 98, 99}) {
            GhostRooms x = Houses.house("house;room z " + cold + ";");
            prints(x, "z " + cold + "?!\n");
        }
        prints(Houses.house("house;room a 9;room b 8 thermo;room c 7 micro;room d 6 thermo micro;ghost c;"),
                "a 9?\nb 8t?\nc 7m?!\nd 6tm?\n");
        GhostRooms x = Houses.house("house;room a 9;room b 10 thermo;room c 9 micro;ghost c;");
        x.holdSeance(0b011);
        prints(x, "b 10t\na 9\nc 9m?!\n");
    }

    private static void prints(GhostRooms x, String report) {
        Check.due("length of " + report, x.printReport(), report.length());
        Check.due("report", Houses.output(x, report.length()), report);
        Check.throwsThe(Check.INDEX, "the byte behind it", () -> x.outputByte(report.length()));
    }

    // Promise 62: "Returns the number of bytes of the output."
    private static void longestReport() {
        StringBuilder text = new StringBuilder("house;");
        StringBuilder report = new StringBuilder();
        for (int room = 0; room < 12; room++) {
            text.append("room bcdefgh").append(Houses.letter(room)).append(" 99 thermo micro;");
            report.append("bcdefgh").append(Houses.letter(room)).append(room == 11 ? " 99tm?!\n" : " 99tm?\n");
        }
        prints(Houses.house(text + "ghost bcdefghl;"), report.toString());
        Check.due("its bytes", report.length(), 12 * 15 + 1);
    }

    // Promise 63: "Throws `IndexOutOfBoundsException` if the output has no such byte"
    // Promise 63: "Returns a byte of the output. - `index`: index of a byte Returns the byte."
    private static void outputBytes() {
        GhostRooms x = Houses.house("house;room a 10;");
        Check.throwsThe(Check.INDEX, "before a report", () -> x.outputByte(0));
        Check.due("a report", x.printReport(), 7);
        Check.due("its first byte", x.outputByte(0), (int) 'a');
        Check.due("its last byte", x.outputByte(6), (int) '\n');
        for (int index : new int[] {Integer.MIN_VALUE, -1, 7, 8, 191, 192, 600, Integer.MAX_VALUE}) {
            Check.throwsThe(Check.INDEX, "byte " + index, () -> x.outputByte(index));
        }
    }

    // Promise 62: "Replaces the output by a report."
    private static void outputReplaced() {
        GhostRooms x = Houses.house(Houses.rooms(12, 10));
        Check.due("a long report", x.printReport(), 12 * 6 + 1);
        x.warm(0, 10);
        Check.due("no change before the next", x.outputByte(2), (int) '1');
        Houses.read(x, "house;room q 5;");
        Check.due("nor by a description", x.outputByte(72), (int) '\n');
        prints(x, "q 5?!\n");
    }
}
