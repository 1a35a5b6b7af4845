import java.util.function.IntUnaryOperator;

/** The edges of terms 1 and 2 and of promises 1, 8 to 19, 47 to 52 and 55 to 60: the house and its settings. */
public final class EdgeHouseTest {
    private static final int NONE = GhostRooms.NONE;

    public static void main(String[] args) {
        newObject();
        callsOfOneObject();
        twelveRooms();
        numbersOfRooms();
        lettersOfNames();
        lengthsOfNames();
        uniqueNames();
        bufferOfName();
        coldness();
        newRoomHasNeither();
        thermometersAndMicrophones();
        twentyFourDoors();
        numbersOfDoors();
        differentRooms();
        oneDoorForTwoRooms();
        noise();
        newDoorIsOpen();
        openDoors();
        sameStateAgain();
        neighbors();
        ghostFromTheFirstRoom();
        settings();
        describedSettings();
        warmAmounts();
        warmToZero();
        earnAmounts();
        earnToTheLimit();
        spendToZero();
        countersAtTheStart();
        Check.end();
    }

    // Rest: "The constants: `NONE = -1`: Result of queries that have no room, door or number to return."
    // Promise 1: "Creates an empty house with initial settings, an empty input buffer, empty output and no saved
    //     state."
    private static void newObject() {
        Check.due("NONE", NONE, -1);
        GhostRooms x = new GhostRooms();
        Check.due("settings, counters and rooms", Houses.describe(x),
                "error 0 -1\nsettings 0 1 5 2 7 coins 50 0 night 0 moves 0 ghost -1 possible 0\n");
        Check.due("rooms and doors", x.roomCount() + " " + x.doorCount(), "0 0");
        Check.due("input buffer", x.truncate(0), 0);
        Check.throwsThe(Check.ARGUMENT, "not a byte in the input buffer", () -> x.truncate(1));
        Check.throwsThe(Check.INDEX, "not a byte of output", () -> x.outputByte(0));
        Check.throwsThe(Check.STATE, "no saved state", x::restoreState);
        Check.throwsThe(Check.STATE, "nothing to undo", x::undo);
    }

    // Rest: "An object is used for at most 512 calls after it has been made"
    private static void callsOfOneObject() {
        GhostRooms x = new GhostRooms();
        for (int call = 1; call < 512; call++) {
            Check.due("call " + call, x.setRandomState(call % 16), call == 1 ? 7 : (call - 1) % 16);
        }
        Check.due("call 512", x.undo(), 5);
    }

    // Term 1: "The house has at most 12 rooms."
    // Promise 17: "Returns the number of rooms."
    private static void twelveRooms() {
        GhostRooms x = Houses.house(Houses.rooms(10, 5));
        Check.due("the 11th room, added to described ones", Houses.addRoom(x, "k", 5), 10);
        Check.due("the 12th room", Houses.addRoom(x, "l", 5), 11);
        Check.due("12 rooms", x.roomCount(), 12);
        Houses.feed(x, "m");
        Check.throwsThe(Check.STATE, "the 13th room", () -> x.addRoom(5));
        Check.due("still 12 rooms", x.roomCount(), 12);
        x.undo();
        Check.due("place for one again", x.addRoom(5), 11);
        Check.due("the new 12th room", Houses.name(x, 11), "m");
        Houses.feed(x, "n");
        Check.throwsThe(Check.STATE, "another 13th room", () -> x.addRoom(5));
    }

    // Term 1: "Rooms are numbered from 0 in the order in which they are added."
    // Promise 47: "Returns the index of the new room."
    private static void numbersOfRooms() {
        GhostRooms x = new GhostRooms();
        for (int room = 0; room < 12; room++) {
            Check.due("room", Houses.addRoom(x, String.valueOf(Houses.letter(11 - room)), room), room);
        }
        for (int room = 0; room < 12; room++) {
            Check.due("name of room " + room, x.nameByte(room, 0), (int) Houses.letter(11 - room));
            Check.due("coldness of room " + room, x.coldness(room), room);
        }
    }

    // Promise 47: "if the input buffer is not 1 to 8 letters a to z"
    private static void lettersOfNames() {
        for (int value = 0; value < 256; value++) {
            boolean letter = value >= 'a' && value <= 'z';
            for (String frame : new String[] {"-", "-bcdefgh", "abcd-fgh", "abcdefg-"}) {
                GhostRooms x = new GhostRooms();
                Houses.feed(x, frame.replace('-', (char) value));
                Check.due("byte " + value + " in " + frame, Check.outcome(() -> x.addRoom(5)),
                        letter ? 0 : "IllegalStateException");
            }
        }
    }

    // Term 1: "Each room has a unique name of 1 to 8 letters a to z and a coldness from 0 to 99."
    private static void lengthsOfNames() {
        for (int length = 0; length <= 10; length++) {
            GhostRooms x = new GhostRooms();
            Houses.feed(x, "abcdefghij".substring(0, length));
            Check.due(length + " letters", Check.outcome(() -> x.addRoom(5)),
                    length >= 1 && length <= 8 ? 0 : "IllegalStateException");
        }
        GhostRooms x = new GhostRooms();
        Houses.feed(x, "a".repeat(600));
        Check.throwsThe(Check.STATE, "600 letters", () -> x.addRoom(5));
    }

    // Promise 47: "a room has this name"
    private static void uniqueNames() {
        GhostRooms x = new GhostRooms();
        Houses.addRoom(x, "abcdefgh", 1);
        Houses.addRoom(x, "b", 1);
        Houses.addRoom(x, "zz", 1);
        for (String name : new String[] {"abcdefgh", "b", "zz"}) {
            Houses.feed(x, name);
            Check.throwsThe(Check.STATE, name + " is there", () -> x.addRoom(5));
        }
        int room = 3;
        for (String name : new String[] {"abcdefg", "bcdefgh", "abcdefgi", "bb", "z", "zzz"}) {
            Check.due(name + " is new", Houses.addRoom(x, name, 5), room);
            room++;
        }
        while (Check.outcome(x::undo) instanceof Integer) {
            room--;
        }
        Check.due("six rooms undone", room, 3);
        Check.due("an undone name is new again", Houses.addRoom(x, "z", 5), 3);
    }

    // Promise 47: "Adds a room whose name is the whole input buffer, which is then emptied."
    private static void bufferOfName() {
        GhostRooms x = new GhostRooms();
        Check.due("a name of one byte", Houses.addRoom(x, "a", 5), 0);
        Check.throwsThe(Check.ARGUMENT, "emptied", () -> x.truncate(1));
        Check.throwsThe(Check.STATE, "an empty buffer is no name", () -> x.addRoom(5));
        Houses.feed(x, "b");
        Check.throwsThe(Check.ARGUMENT, "a refused call", () -> x.addRoom(100));
        Check.due("keeps it", x.truncate(1), 1);
        Houses.feed(x, "b;");
        Check.throwsThe(Check.STATE, "a name and a byte", () -> x.addRoom(5));
        Check.due("both are kept", x.truncate(2), 2);
        x.truncate(1);
        Check.due("the name alone", x.addRoom(5), 1);
    }

    // Promise 47: "if coldness is out of range"
    // Promise 47: "`coldness`: 0 to 99"
    private static void coldness() {
        for (int value : new int[] {Integer.MIN_VALUE, -1, 0, 1, 98, 99, 100, Integer.MAX_VALUE}) {
            GhostRooms x = new GhostRooms();
            Houses.feed(x, "a");
            boolean taken = value >= 0 && value <= 99;
            Check.due("coldness " + value, Check.outcome(() -> x.addRoom(value)),
                    taken ? 0 : "IllegalArgumentException");
            Check.due("rooms behind coldness " + value, x.roomCount(), taken ? 1 : 0);
            Check.due("coldness", Check.outcome(() -> x.coldness(0)), taken ? value : "IndexOutOfBoundsException");
        }
    }

    // Term 1: "A room may have a thermometer, and it may have a microphone. A new room has neither unless the
    //     description says so."
    private static void newRoomHasNeither() {
        GhostRooms x = Houses.house("house;room a 5;room b 5 thermo;room c 5 micro;room d 5 thermo micro;");
        Houses.addRoom(x, "e", 5);
        StringBuilder kit = new StringBuilder();
        for (int room = 0; room < 5; room++) {
            kit.append(x.hasThermometer(room) ? "t" : "-").append(x.hasMicrophone(room) ? "m " : "- ");
        }
        Check.due("thermometers and microphones", kit.toString(), "-- t- -m tm -- ");
    }

    // Promise 50: "Returns the number of rooms with a thermometer afterwards."
    // Promise 51: "Returns the number of rooms with a microphone afterwards."
    private static void thermometersAndMicrophones() {
        GhostRooms x = Houses.house(Houses.rooms(12, 5));
        for (int count = 1; count <= 12; count++) {
            Check.due("thermometers up to all", x.setThermometer(12 - count, true), count);
            Check.due("microphones up to all", x.setMicrophone(count - 1, true), count);
        }
        Check.throwsThe(Check.STATE, "all have a thermometer", () -> x.setThermometer(11, true));
        Check.throwsThe(Check.STATE, "all have a microphone", () -> x.setMicrophone(11, true));
        for (int count = 11; count >= 0; count--) {
            Check.due("thermometers down to none", x.setThermometer(count, false), count);
            Check.due("microphones down to none", x.setMicrophone(11 - count, false), count);
        }
        Check.throwsThe(Check.STATE, "none has a thermometer", () -> x.setThermometer(0, false));
        Check.throwsThe(Check.STATE, "none has a microphone", () -> x.setMicrophone(0, false));
    }

    // Term 1: "The house has at most 24 doors."
    // Promise 18: "Returns the number of doors."
    private static void twentyFourDoors() {
        GhostRooms x = Houses.house(Houses.rooms(8, 5) + Houses.doors(22, 1));
        Check.due("the 23rd door, added to described ones", x.addDoor(4, 5, 1), 22);
        Check.due("the 24th door", x.addDoor(4, 6, 1), 23);
        Check.due("24 doors", x.doorCount(), 24);
        Check.throwsThe(Check.STATE, "the 25th door", () -> x.addDoor(4, 7, 1));
        Check.due("still 24 doors", x.doorCount(), 24);
        Check.due("no 25th door", x.doorBetween(4, 7), NONE);
        x.undo();
        Check.due("place for one again", x.addDoor(4, 7, 1), 23);
        Check.throwsThe(Check.STATE, "another 25th door", () -> x.addDoor(4, 6, 1));
    }

    // Term 1: "Doors are numbered from 0 in the order in which they are added."
    // Promise 48: "Returns the index of the new door."
    private static void numbersOfDoors() {
        GhostRooms x = Houses.house(Houses.rooms(12, 5));
        for (int door = 0; door < 11; door++) {
            Check.due("door", x.addDoor(11 - door, 10 - door, door % 10), door);
        }
        for (int door = 0; door < 11; door++) {
            Check.due("rooms of door " + door, x.lowRoom(door) + "-" + x.highRoom(door),
                    (10 - door) + "-" + (11 - door));
            Check.due("noise of door " + door, x.noise(door), door % 10);
        }
    }

    // Term 1: "A door connects two different rooms."
    // Promise 48: "`room`: index of a room - `other`: index of another room"
    private static void differentRooms() {
        GhostRooms x = Houses.house(Houses.rooms(12, 5));
        for (int room = 0; room < 12; room++) {
            int same = room;
            Check.throwsThe(Check.ARGUMENT, "from a room to itself", () -> x.addDoor(same, same, 1));
        }
        Check.due("the first and the last room", x.addDoor(11, 0, 1), 0);
        Check.due("neighboring numbers", x.addDoor(0, 1, 1), 1);
        Check.due("doors", x.doorCount(), 2);
    }

    // Term 1: "At most one door connects the same two rooms."
    private static void oneDoorForTwoRooms() {
        GhostRooms x = Houses.house(Houses.rooms(3, 5));
        x.addDoor(0, 2, 1);
        Check.throwsThe(Check.STATE, "a second door", () -> x.addDoor(0, 2, 1));
        Check.throwsThe(Check.STATE, "a second door the other way", () -> x.addDoor(2, 0, 9));
        x.setDoorOpen(0, false);
        Check.throwsThe(Check.STATE, "beside a closed door", () -> x.addDoor(2, 0, 1));
        Check.due("one end the same", x.addDoor(2, 1, 1), 1);
        Check.due("one end the same", x.addDoor(1, 0, 1), 2);
        Check.throwsThe(Check.STATE, "every pair has its door", () -> x.addDoor(1, 2, 1));
        x.undo();
        Check.due("an undone door is new again", x.addDoor(0, 1, 1), 2);
    }

    // Promise 48: "if both rooms are the same or noise is out of range"
    // Promise 48: "`noise`: 0 to 9"
    private static void noise() {
        for (int value : new int[] {Integer.MIN_VALUE, -1, 0, 1, 8, 9, 10, Integer.MAX_VALUE}) {
            GhostRooms x = Houses.house(Houses.rooms(2, 5));
            boolean taken = value >= 0 && value <= 9;
            Check.due("noise " + value, Check.outcome(() -> x.addDoor(0, 1, value)),
                    taken ? 0 : "IllegalArgumentException");
            Check.due("noise", Check.outcome(() -> x.noise(0)), taken ? value : "IndexOutOfBoundsException");
        }
    }

    // Term 1: "A new door is open unless the description says so."
    // Promise 48: "Adds an open door."
    private static void newDoorIsOpen() {
        GhostRooms x = Houses.house(Houses.rooms(4, 5) + "door a b 1;door c b 1 closed;");
        x.addDoor(3, 2, 1);
        Check.due("open doors", x.isOpen(0) + " " + x.isOpen(1) + " " + x.isOpen(2), "true false true");
    }

    // Promise 49: "Returns the number of open doors afterwards."
    private static void openDoors() {
        GhostRooms x = Houses.house(Houses.rooms(8, 5) + Houses.doors(24, 1));
        for (int door = 0; door < 24; door++) {
            Check.due("open doors down to none", x.setDoorOpen(door, false), 23 - door);
        }
        for (int door = 23; door >= 0; door--) {
            Check.due("open doors up to all", x.setDoorOpen(door, true), 24 - door);
        }
    }

    // Promise 49: "Throws `IllegalStateException` if the door already is in that state"
    // Promise 50: "Throws `IllegalStateException` if the room already is in that state"
    // Promise 51: "Throws `IllegalStateException` if the room already is in that state"
    private static void sameStateAgain() {
        GhostRooms x = Houses.house(Houses.rooms(2, 5) + "door a b 1;");
        Check.throwsThe(Check.STATE, "a new door is open", () -> x.setDoorOpen(0, true));
        x.setDoorOpen(0, false);
        Check.throwsThe(Check.STATE, "closed already", () -> x.setDoorOpen(0, false));
        x.setDoorOpen(0, true);
        Check.throwsThe(Check.STATE, "open already", () -> x.setDoorOpen(0, true));
        Check.throwsThe(Check.STATE, "no thermometer in a new room", () -> x.setThermometer(1, false));
        x.setThermometer(1, true);
        Check.throwsThe(Check.STATE, "a thermometer already", () -> x.setThermometer(1, true));
        Check.throwsThe(Check.STATE, "none in the other room", () -> x.setThermometer(0, false));
        Check.throwsThe(Check.STATE, "no microphone in a new room", () -> x.setMicrophone(1, false));
        x.setMicrophone(1, true);
        Check.throwsThe(Check.STATE, "a microphone already", () -> x.setMicrophone(1, true));
        Check.throwsThe(Check.STATE, "none in the other room", () -> x.setMicrophone(0, false));
    }

    // Term 1: "Two rooms are neighbors if an open door connects them."
    private static void neighbors() {
        GhostRooms x = Houses.house(Houses.rooms(12, 5) + Houses.star(5, 12, 1));
        Check.due("eleven neighbors", x.neighbors(5), 0b111111011111);
        Check.due("one neighbor", x.neighbors(0) + " " + x.neighbors(11), "32 32");
        for (int door = 0; door < 11; door++) {
            x.setDoorOpen(door, false);
        }
        Check.due("closed doors make no neighbors", x.neighbors(5) + " " + x.neighbors(0), "0 0");
        Check.due("a room alone", Houses.house(Houses.rooms(1, 5)).neighbors(0), 0);
    }

    // Term 1: "The ghost is in exactly one room as soon as the house has a room. It starts in room 0."
    // Promise 19: "Returns the room of the ghost; NONE if there is no room."
    private static void ghostFromTheFirstRoom() {
        GhostRooms x = new GhostRooms();
        Check.due("no room", x.ghostRoom(), NONE);
        Houses.addRoom(x, "a", 99);
        Check.due("the first room", x.ghostRoom(), 0);
        Houses.addRoom(x, "b", 0);
        Check.due("more rooms", x.ghostRoom(), 0);
        x.undo();
        x.undo();
        Check.due("the first room undone", x.ghostRoom(), NONE);
        Check.due("and no room possible", x.possibleRooms(), 0);
        Check.due("a description", Houses.house(Houses.rooms(12, 5)).ghostRoom(), 0);
        Check.due("a description without rooms", Houses.house("house;").ghostRoom(), NONE);
    }

    // Term 2: "The movement mode is 0, 1 or 2 (initially 0). The chill is 1 to 9 (initially 1). The hearing threshold
    //     is 0 to 9 (initially 5). The seance price is 1 to 9 (initially 2). The random state is 0 to 15 (initially
    //     7)."
    // Promise 8: "Returns the movement mode."
    // Promise 9: "Returns the chill."
    // Promise 10: "Returns the hearing threshold."
    // Promise 11: "Returns the seance price."
    // Promise 12: "Returns the random state."
    // Promise 56: "Sets the movement mode."
    // Promise 56: "`value`: 0 to 2 Returns the previous value."
    // Promise 57: "if value is out of range"
    // Promise 57: "Sets the chill."
    // Promise 57: "`value`: 1 to 9 Returns the previous value."
    // Promise 58: "if value is out of range"
    // Promise 58: "Sets the hearing threshold."
    // Promise 58: "`value`: 0 to 9 Returns the previous value."
    // Promise 59: "if value is out of range"
    // Promise 59: "Sets the seance price."
    // Promise 59: "`value`: 1 to 9 Returns the previous value."
    // Promise 60: "if value is out of range"
    // Promise 60: "Sets the random state."
    // Promise 60: "`value`: 0 to 15 Returns the previous value."
    private static void settings() {
        GhostRooms x = new GhostRooms();
        setting("mode", x::setMode, v -> x.mode(), 0, 2, 0);
        setting("chill", x::setChill, v -> x.chill(), 1, 9, 1);
        setting("hearingThreshold", x::setHearingThreshold, v -> x.hearingThreshold(), 0, 9, 5);
        setting("seancePrice", x::setSeancePrice, v -> x.seancePrice(), 1, 9, 2);
        setting("randomState", x::setRandomState, v -> x.randomState(), 0, 15, 7);
        Check.due("each has set its own", Houses.state(x),
                "settings 0 1 0 1 0 coins 50 0 night 0 moves 0 ghost -1 possible 0\n");
    }

    private static void setting(String what, IntUnaryOperator set, IntUnaryOperator get, int least, int most,
            int initial) {
        Check.due("initial " + what, get.applyAsInt(0), initial);
        int previous = initial;
        for (int value : new int[] {most, least, most, most, least}) {
            Check.due(what + " is set to " + value, set.applyAsInt(value), previous);
            Check.due(what, get.applyAsInt(0), value);
            for (int wrong : new int[] {Integer.MIN_VALUE, -1, least - 1, most + 1, 16, Integer.MAX_VALUE}) {
                Check.throwsThe(Check.ARGUMENT, what + " " + wrong, () -> set.applyAsInt(wrong));
                Check.due(what + " stays", get.applyAsInt(0), value);
            }
            previous = value;
        }
    }

    // Term 5: "The other statements set the setting with that name."
    private static void describedSettings() {
        GhostRooms x = Houses.house("house;mode 2;chill 9;hearing 9;price 9;random 15;coins 999;");
        Check.due("the greatest", Houses.state(x),
                "settings 2 9 9 9 15 coins 999 0 night 0 moves 0 ghost -1 possible 0\n");
        Houses.read(x, "house;mode 0;chill 1;hearing 0;price 1;random 0;coins 0;");
        Check.due("the least", Houses.state(x),
                "settings 0 1 0 1 0 coins 0 0 night 0 moves 0 ghost -1 possible 0\n");
        Houses.read(x, "house;");
        Check.due("none set: the initial ones", Houses.state(x),
                "settings 0 1 5 2 7 coins 50 0 night 0 moves 0 ghost -1 possible 0\n");
    }

    // Promise 52: "if amount is out of range"
    // Promise 52: "Reduces the coldness of a room."
    // Promise 52: "`amount`: 1 to 99 Returns the coldness afterwards."
    private static void warmAmounts() {
        for (int amount : new int[] {Integer.MIN_VALUE, -1, 0, 1, 2, 98, 99, 100, Integer.MAX_VALUE}) {
            GhostRooms x = Houses.house(Houses.rooms(1, 99));
            boolean taken = amount >= 1 && amount <= 99;
            Check.due("warm by " + amount, Check.outcome(() -> x.warm(0, amount)),
                    taken ? 99 - amount : "IllegalArgumentException");
            Check.due("coldness behind it", x.coldness(0), taken ? 99 - amount : 99);
        }
    }

    // Promise 52: "if amount is greater than the coldness of the room"
    private static void warmToZero() {
        for (int cold = 0; cold <= 98; cold++) {
            GhostRooms x = Houses.house("house;room a 99;room b " + cold + ";");
            int tooMuch = cold + 1;
            Check.throwsThe(Check.STATE, "one more than the coldness", () -> x.warm(1, tooMuch));
            Check.due("it stays", x.coldness(1), cold);
            if (cold > 0) {
                Check.due("as much as the coldness", x.warm(1, cold), 0);
                Check.throwsThe(Check.STATE, "a room at 0", () -> x.warm(1, 1));
            }
        }
    }

    // Promise 55: "if amount is out of range"
    // Promise 55: "Adds coins."
    // Promise 55: "`amount`: 1 to 99 Returns the number of coins afterwards."
    private static void earnAmounts() {
        for (int amount : new int[] {Integer.MIN_VALUE, -1, 0, 1, 2, 98, 99, 100, Integer.MAX_VALUE}) {
            GhostRooms x = Houses.house("house;coins 0;");
            boolean taken = amount >= 1 && amount <= 99;
            Check.due("earn " + amount, Check.outcome(() -> x.earnCoins(amount)),
                    taken ? amount : "IllegalArgumentException");
            Check.due("coins behind it", x.coins(), taken ? amount : 0);
        }
    }

    // Promise 55: "if the number of coins would exceed 999"
    private static void earnToTheLimit() {
        for (int amount = 1; amount <= 99; amount++) {
            int earned = amount;
            GhostRooms x = Houses.house("house;coins " + (999 - amount) + ";");
            Check.due("up to 999", x.earnCoins(amount), 999);
            Check.throwsThe(Check.STATE, "one beyond 999", () -> x.earnCoins(1));
            GhostRooms y = Houses.house("house;coins " + (1000 - amount) + ";");
            Check.throwsThe(Check.STATE, "to 1000", () -> y.earnCoins(earned));
            Check.due("coins stay", y.coins(), 1000 - amount);
        }
    }

    // Term 2: "The number of coins is 0 to 999 (initially 50)."
    // Promise 13: "Returns the number of coins."
    private static void spendToZero() {
        GhostRooms x = Houses.house(Houses.rooms(12, 5) + "price 5;");
        for (int room = 11; room >= 2; room--) {
            x.holdSeance(1 << room);
        }
        Check.due("ten seances at 5", x.coins() + " " + x.coinsSpent(), "0 50");
        Check.throwsThe(Check.STATE, "no coins for another", () -> x.holdSeance(2));
        x.setSeancePrice(1);
        Check.throwsThe(Check.STATE, "not even for the least price", () -> x.holdSeance(2));
        Check.due("earned again", x.earnCoins(1), 1);
        Check.no("and spent", x.holdSeance(2));
        Check.due("all spent", x.coins() + " " + x.coinsSpent(), "0 51");
    }

    // Term 2: "The night number is initially 0."
    // Promise 14: "Returns the number of coins spent on seances since the house was created or described."
    // Promise 15: "Returns the night number."
    // Promise 16: "Returns the number of nights, since the house was created or described, in which the ghost changed
    //     its room."
    private static void countersAtTheStart() {
        GhostRooms x = Houses.house("house;room a 5;room b 0;door a b 1;");
        Check.due("described", x.coinsSpent() + " " + x.nightNumber() + " " + x.ghostMoves(), "0 0 0");
        x.passNights(1);
        Check.due("one night with a move", x.nightNumber() + " " + x.ghostMoves(), "1 1");
        x.passNights(1);
        Check.due("one night without", x.nightNumber() + " " + x.ghostMoves(), "2 1");
        x.holdSeance(1);
        Check.due("a seance", x.coinsSpent(), 2);
        Houses.read(x, "house;room a 5;room b 5;");
        Check.due("described anew", x.coinsSpent() + " " + x.nightNumber() + " " + x.ghostMoves(), "0 0 0");
    }
}
