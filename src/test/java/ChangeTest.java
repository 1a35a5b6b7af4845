import java.util.function.IntUnaryOperator;

/** Promises 47 to 52 and 55 to 60: the changes but for nights and seances, which NightTest has. */
public final class ChangeTest {
    private static final String HOUSE = "house;room a 5;room b 9 thermo;room c 50 micro;door a b 3;door b c 7 closed;";
    private static final int[] WRONG = {-1, 3, 12, 32, Integer.MIN_VALUE, Integer.MAX_VALUE};

    public static void main(String[] args) {
        addRoom();
        addRoomNames();
        twelveRooms();
        addDoor();
        twentyFourDoors();
        setDoorOpen();
        setThermometer();
        setMicrophone();
        warm();
        earnCoins();
        settings();
        Check.end();
    }

    private static void addRoom() {
        GhostRooms x = new GhostRooms();
        Check.due("first room", Houses.addRoom(x, "hall", 0), 0);
        Check.due("second room", Houses.addRoom(x, "b", 99), 1);
        Check.due("the house", Houses.state(x), "settings 0 1 5 2 7 coins 50 0 night 0 moves 0 ghost 0 possible 1\n"
                + "hall 0 why 0 -1 -1\nb 99 why 5 -1 -1\n");
        Check.due("the input is emptied", Check.thrownBy(() -> x.truncate(1)), "IllegalArgumentException");
        Houses.feed(x, "c");
        for (int cold : new int[] {-1, 100, Integer.MIN_VALUE, Integer.MAX_VALUE}) {
            Check.refused(x, IllegalArgumentException.class, "coldness " + cold, () -> x.addRoom(cold));
        }
        Check.due("the input is kept", x.truncate(1), 1);
        Check.due("third room", x.addRoom(7), 2);
        Houses.feed(x, "b");
        Check.refused(x, IllegalStateException.class, "the name is there", () -> x.addRoom(5));
        Check.refused(x, IllegalArgumentException.class, "the range comes first", () -> x.addRoom(100));
        Check.due("the input is kept", x.findRoom(), 1);
        Check.due("a description's room", Houses.house("house;room a 1;").possibleRooms(), 1);
        GhostRooms y = Houses.house("house;room a 1;nights 3;");
        Houses.addRoom(y, "b", 5);
        Check.due("not possible", y.possibleRooms(), 1);
        GhostRooms z = Houses.house("house;");
        Houses.addRoom(z, "b", 5);
        Check.due("possible in an empty described house", z.possibleRooms(), 1);
        Check.due("where the ghost is", z.ghostRoom(), 0);
    }

    private static void addRoomNames() {
        GhostRooms x = new GhostRooms();
        String[] bad = {"", "abcdefghi", "A", "a1", "a b", " a", "a ", "a\0", "\0", "`", "{", "\u00e4", "a\n", "hall;",
            "zzzzzzzzz", "a".repeat(600)};
        for (String name : bad) {
            Houses.feed(x, name);
            Check.refused(x, IllegalStateException.class, "the name '" + name + "'", () -> x.addRoom(5));
            Check.due("the input is kept", x.truncate(name.length()), name.length());
        }
        Check.due("eight letters", Houses.addRoom(x, "abcdefgh", 1), 0);
        Check.due("one letter", Houses.addRoom(x, "a", 1), 1);
        Check.due("the last letter", Houses.addRoom(x, "z", 1), 2);
        Check.due("a longer one", Houses.addRoom(x, "abcdefg", 1), 3);
        Check.due("names", Houses.name(x, 0) + Houses.name(x, 1) + Houses.name(x, 2) + Houses.name(x, 3),
                "abcdefghazabcdefg");
    }

    private static void twelveRooms() {
        GhostRooms x = new GhostRooms();
        for (int i = 0; i < 12; i++) {
            Check.due("room " + i, Houses.addRoom(x, String.valueOf((char) ('a' + i)), i), i);
        }
        Houses.feed(x, "m");
        Check.refused(x, IllegalStateException.class, "a thirteenth", () -> x.addRoom(5));
        Check.due("rooms", x.roomCount(), 12);
        Check.due("the last room", x.coldness(11), 11);
        x.undo();
        Check.due("the twelfth again", x.addRoom(77), 11);
        Check.due("its name", Houses.name(x, 11), "m");
    }

    private static void addDoor() {
        GhostRooms x = Houses.house("house;room a 1;room b 1;room c 1;room d 1;");
        Check.due("first door", x.addDoor(2, 0, 0), 0);
        Check.due("second door", x.addDoor(0, 1, 9), 1);
        Check.due("doors", Houses.state(x), "settings 0 1 5 2 7 coins 50 0 night 0 moves 0 ghost 0 possible 15\n"
                + "a 1 why 0 -1 -1\nb 1 why 0 -1 -1\nc 1 why 0 -1 -1\nd 1 why 0 -1 -1\n0-2 0 open\n0-1 9 open\n");
        for (int room : new int[] {-1, 4, Integer.MIN_VALUE, Integer.MAX_VALUE}) {
            Check.refused(x, IndexOutOfBoundsException.class, "from " + room, () -> x.addDoor(room, 0, 1));
            Check.refused(x, IndexOutOfBoundsException.class, "to " + room, () -> x.addDoor(0, room, 1));
            Check.refused(x, IndexOutOfBoundsException.class, "both, noise", () -> x.addDoor(room, room, 10));
        }
        for (int noise : new int[] {-1, 10, Integer.MIN_VALUE, Integer.MAX_VALUE}) {
            Check.refused(x, IllegalArgumentException.class, "noise " + noise, () -> x.addDoor(1, 2, noise));
            Check.refused(x, IllegalArgumentException.class, "noise before door", () -> x.addDoor(0, 1, noise));
        }
        Check.refused(x, IllegalArgumentException.class, "same room", () -> x.addDoor(1, 1, 1));
        Check.refused(x, IllegalStateException.class, "a second door", () -> x.addDoor(0, 1, 1));
        Check.refused(x, IllegalStateException.class, "the other way", () -> x.addDoor(0, 2, 1));
        x.setDoorOpen(0, false);
        Check.refused(x, IllegalStateException.class, "a closed one is there", () -> x.addDoor(0, 2, 1));
    }

    private static void twentyFourDoors() {
        GhostRooms x = Houses.house("house;room a 1;room b 1;room c 1;room d 1;room e 1;room f 1;room g 1;room h 1;");
        int door = 0;
        for (int a = 0; a < 8; a++) {
            for (int b = a + 1; b < 8 && door < 24; b++) {
                Check.due("door", x.addDoor(b, a, door % 10), door);
                door++;
            }
        }
        Check.due("the last pair has none", x.doorBetween(6, 7), GhostRooms.NONE);
        Check.refused(x, IllegalStateException.class, "a twenty-fifth", () -> x.addDoor(6, 7, 1));
        Check.refused(x, IllegalArgumentException.class, "the noise comes first", () -> x.addDoor(6, 7, 10));
        Check.due("open doors", x.setDoorOpen(23, false), 23);
        Check.due("the last door", x.noise(23), 3);
        Check.no("the last door", x.isOpen(23));
        Check.due("neighbors", x.neighbors(0), 0xfe);
    }

    // Promise 49: "Opens or closes a door."
    // Promise 49: "`door`: index of a door - `open`: whether it is open afterwards"
    private static void setDoorOpen() {
        GhostRooms x = Houses.house(HOUSE);
        Check.refused(x, IllegalStateException.class, "it is open", () -> x.setDoorOpen(0, true));
        Check.refused(x, IllegalStateException.class, "it is closed", () -> x.setDoorOpen(1, false));
        Check.due("open both", x.setDoorOpen(1, true), 2);
        Check.yes("open", x.isOpen(1));
        Check.due("close one", x.setDoorOpen(0, false), 1);
        Check.no("closed", x.isOpen(0));
        Check.due("close both", x.setDoorOpen(1, false), 0);
        for (int door : new int[] {-1, 2, 24, 32, Integer.MIN_VALUE, Integer.MAX_VALUE}) {
            Check.refused(x, IndexOutOfBoundsException.class, "door " + door, () -> x.setDoorOpen(door, true));
            Check.refused(x, IndexOutOfBoundsException.class, "door " + door, () -> x.setDoorOpen(door, false));
        }
    }

    // Promise 50: "Installs or removes the thermometer of a room."
    // Promise 50: "`room`: index of a room - `present`: whether the room has a thermometer afterwards"
    private static void setThermometer() {
        GhostRooms x = Houses.house(HOUSE);
        Check.refused(x, IllegalStateException.class, "it has none", () -> x.setThermometer(0, false));
        Check.refused(x, IllegalStateException.class, "it has one", () -> x.setThermometer(1, true));
        Check.due("install", x.setThermometer(0, true), 2);
        Check.yes("installed", x.hasThermometer(0));
        Check.due("remove", x.setThermometer(1, false), 1);
        Check.no("removed", x.hasThermometer(1));
        Check.no("no microphone", x.hasMicrophone(0));
        for (int room : WRONG) {
            Check.refused(x, IndexOutOfBoundsException.class, "room " + room, () -> x.setThermometer(room, true));
            Check.refused(x, IndexOutOfBoundsException.class, "room " + room, () -> x.setThermometer(room, false));
        }
    }

    // Promise 51: "Installs or removes the microphone of a room."
    // Promise 51: "`room`: index of a room - `present`: whether the room has a microphone afterwards"
    private static void setMicrophone() {
        GhostRooms x = Houses.house(HOUSE);
        Check.refused(x, IllegalStateException.class, "it has none", () -> x.setMicrophone(0, false));
        Check.refused(x, IllegalStateException.class, "it has one", () -> x.setMicrophone(2, true));
        Check.due("install", x.setMicrophone(0, true), 2);
        Check.yes("installed", x.hasMicrophone(0));
        Check.due("remove", x.setMicrophone(2, false), 1);
        Check.no("removed", x.hasMicrophone(2));
        Check.no("no thermometer", x.hasThermometer(0));
        for (int room : WRONG) {
            Check.refused(x, IndexOutOfBoundsException.class, "room " + room, () -> x.setMicrophone(room, true));
            Check.refused(x, IndexOutOfBoundsException.class, "room " + room, () -> x.setMicrophone(room, false));
        }
    }

    // Promise 52: "`room`: index of a room - `amount`: 1 to 99"
    private static void warm() {
        GhostRooms x = Houses.house(HOUSE + "room d 99;");
        Check.due("by one", x.warm(0, 1), 4);
        Check.due("to 0", x.warm(0, 4), 0);
        Check.due("coldness", x.coldness(0), 0);
        Check.refused(x, IllegalStateException.class, "below 0", () -> x.warm(0, 1));
        Check.refused(x, IllegalStateException.class, "below 0", () -> x.warm(1, 10));
        for (int amount : new int[] {0, -1, 100, Integer.MIN_VALUE, Integer.MAX_VALUE}) {
            Check.refused(x, IllegalArgumentException.class, "amount " + amount, () -> x.warm(1, amount));
        }
        Check.refused(x, IndexOutOfBoundsException.class, "the room comes first", () -> x.warm(4, 0));
        Check.refused(x, IndexOutOfBoundsException.class, "no such room", () -> x.warm(-1, 1));
        Check.due("by 99", x.warm(3, 99), 0);
        Check.due("the others", x.coldness(1) + " " + x.coldness(2), "9 50");
    }

    private static void earnCoins() {
        GhostRooms x = Houses.house("house;coins 900;");
        for (int amount : new int[] {0, -1, 100, Integer.MIN_VALUE, Integer.MAX_VALUE}) {
            Check.refused(x, IllegalArgumentException.class, "amount " + amount, () -> x.earnCoins(amount));
        }
        Check.due("one", x.earnCoins(1), 901);
        Check.refused(x, IllegalStateException.class, "beyond 999", () -> x.earnCoins(99));
        Check.due("up to 999", x.earnCoins(98), 999);
        Check.refused(x, IllegalStateException.class, "beyond 999", () -> x.earnCoins(1));
        Check.refused(x, IllegalArgumentException.class, "the range comes first", () -> x.earnCoins(100));
        Check.due("coins", x.coins(), 999);
    }

    private static void settings() {
        GhostRooms x = new GhostRooms();
        setting(x, "setMode", x::setMode, v -> x.mode(), 0, 2, 0);
        setting(x, "setChill", x::setChill, v -> x.chill(), 1, 9, 1);
        setting(x, "setHearingThreshold", x::setHearingThreshold, v -> x.hearingThreshold(), 0, 9, 5);
        setting(x, "setSeancePrice", x::setSeancePrice, v -> x.seancePrice(), 1, 9, 2);
        setting(x, "setRandomState", x::setRandomState, v -> x.randomState(), 0, 15, 7);
        Check.due("the others", Houses.state(x),
                "settings 2 9 9 9 15 coins 50 0 night 0 moves 0 ghost -1 possible 0\n");
    }

    private static void setting(GhostRooms x, String what, IntUnaryOperator set, IntUnaryOperator get, int least,
            int most, int initial) {
        int previous = initial;
        for (int value = least; value <= most; value++) {
            Check.due(what + "(" + value + ")", set.applyAsInt(value), previous);
            Check.due("value after " + what, get.applyAsInt(0), value);
            previous = value;
        }
        Check.due(what + " again", set.applyAsInt(most), most);
        for (int value : new int[] {least - 1, most + 1, Integer.MIN_VALUE, Integer.MAX_VALUE}) {
            Check.refused(x, IllegalArgumentException.class, what + "(" + value + ")", () -> set.applyAsInt(value));
        }
    }
}
