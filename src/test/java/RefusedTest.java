/**
 * Every exception of every throws clause, and the sentences behind term 7: which of several exceptions is thrown, and
 * that a call that throws changes nothing: not the house, nor what can be undone, nor the saved state, the output, the
 * input buffer or the error.
 */
public final class RefusedTest {
    private static final int[] NO_ROOM = {Integer.MIN_VALUE, -1, 3, 12, Integer.MAX_VALUE};
    private static final int[] NO_DOOR = {Integer.MIN_VALUE, -1, 2, 24, Integer.MAX_VALUE};

    public static void main(String[] args) {
        input();
        roomQueries();
        doorQueries();
        twoRoomQueries();
        predictions();
        addRoom();
        addDoor();
        fullHouse();
        doorsAndKit();
        warm();
        passNights();
        holdSeance();
        earnCoins();
        settings();
        undoAndOutput();
        texts();
        scripts();
        Check.end();
    }

    // the object of LIVELY has three rooms and two doors, both open, thermometers in a and b, a microphone in c
    private static void refuses(Class<? extends RuntimeException> kind, String what, Twins.Step call) {
        Twins.refuses(kind, what, Twins.LIVELY, call);
    }

    private static Twins.Step fed(String text) {
        return Twins.LIVELY.then(x -> Houses.feed(x, text));
    }

    // Rest: "A method that throws an exception changes nothing, unless its description says otherwise."
    // Promise 2: "Throws `IllegalStateException` if the length would exceed 600"
    // Promise 3: "Throws `IllegalArgumentException` if length is out of range"
    private static void input() {
        String text = "house;room k 7 thermo;nights 1;";
        for (int length : new int[] {581, 599, 600}) {
            Twins.refuses(Check.STATE, "feed at " + length, fed(text + " ".repeat(length - text.length())),
                    x -> x.feed(0x23232323, 0, -1, 1, 2));
        }
        for (int length : new int[] {Integer.MIN_VALUE, -1, 41, 601, Integer.MAX_VALUE}) {
            refuses(Check.ARGUMENT, "truncate(" + length + ") of 40", x -> x.truncate(length));
        }
    }

    // Rest: "A method that throws an exception changes nothing, unless its description says otherwise."
    private static void roomQueries() {
        for (int room : NO_ROOM) {
            refuses(Check.INDEX, "nameByte", x -> x.nameByte(room, 0));
            refuses(Check.INDEX, "coldness", x -> x.coldness(room));
            refuses(Check.INDEX, "hasThermometer", x -> x.hasThermometer(room));
            refuses(Check.INDEX, "hasMicrophone", x -> x.hasMicrophone(room));
            refuses(Check.INDEX, "neighbors", x -> x.neighbors(room));
            refuses(Check.INDEX, "exclusionReason", x -> x.exclusionReason(room));
            refuses(Check.INDEX, "exclusionEvidence", x -> x.exclusionEvidence(room));
            refuses(Check.INDEX, "exclusionSource", x -> x.exclusionSource(room));
        }
    }

    // Rest: "A method that throws an exception changes nothing, unless its description says otherwise."
    private static void doorQueries() {
        for (int door : NO_DOOR) {
            refuses(Check.INDEX, "lowRoom", x -> x.lowRoom(door));
            refuses(Check.INDEX, "highRoom", x -> x.highRoom(door));
            refuses(Check.INDEX, "noise", x -> x.noise(door));
            refuses(Check.INDEX, "isOpen", x -> x.isOpen(door));
            refuses(Check.INDEX, "isMonitored", x -> x.isMonitored(door));
        }
    }

    // Rest: "A method that throws an exception changes nothing, unless its description says otherwise."
    private static void twoRoomQueries() {
        for (int room : NO_ROOM) {
            refuses(Check.INDEX, "doorBetween, the first", x -> x.doorBetween(room, 2));
            refuses(Check.INDEX, "doorBetween, the second", x -> x.doorBetween(2, room));
            refuses(Check.INDEX, "doorBetween, both", x -> x.doorBetween(room, room));
            refuses(Check.INDEX, "quietestPath, the first", x -> x.quietestPath(room, 2));
            refuses(Check.INDEX, "quietestPath, the second", x -> x.quietestPath(2, room));
            refuses(Check.INDEX, "quietestPath, both", x -> x.quietestPath(room, room));
        }
    }

    // Rest: "A method that throws an exception changes nothing, unless its description says otherwise."
    private static void predictions() {
        for (int nights : new int[] {Integer.MIN_VALUE, -1, 51, Integer.MAX_VALUE}) {
            refuses(Check.ARGUMENT, "ghostRoomAfter", x -> x.ghostRoomAfter(nights));
            refuses(Check.ARGUMENT, "possibleRoomsAfter", x -> x.possibleRoomsAfter(nights));
        }
    }

    // Rest: "If several exceptions apply to a call, the one that stands first in the throws clause is thrown."
    // Promise 47: "Throws `IllegalArgumentException` if coldness is out of range"
    // Promise 47: "Throws `IllegalStateException` if the input buffer is not 1 to 8 letters a to z, a room has this
    //     name, or there are 12 rooms"
    private static void addRoom() {
        for (int cold : new int[] {Integer.MIN_VALUE, -1, 100, Integer.MAX_VALUE}) {
            Twins.refuses(Check.ARGUMENT, "coldness", fed("d"), x -> x.addRoom(cold));
            Twins.refuses(Check.ARGUMENT, "coldness and no name", fed(""), x -> x.addRoom(cold));
            Twins.refuses(Check.ARGUMENT, "coldness and the name of a room", fed("a"), x -> x.addRoom(cold));
        }
        for (String name : new String[] {"", "abcdefghi", "A", "a b", "house;", "1"}) {
            Twins.refuses(Check.STATE, "the name '" + name + "'", fed(name), x -> x.addRoom(5));
        }
        for (String name : new String[] {"a", "b", "c"}) {
            Twins.refuses(Check.STATE, "the name of a room", fed(name), x -> x.addRoom(5));
        }
    }

    // Rest: "If several exceptions apply to a call, the one that stands first in the throws clause is thrown."
    // Promise 48: "Throws `IndexOutOfBoundsException` if a room is invalid"
    // Promise 48: "Throws `IllegalArgumentException` if both rooms are the same or noise is out of range"
    // Promise 48: "Throws `IllegalStateException` if a door connects both rooms already, or there are 24 doors"
    private static void addDoor() {
        for (int room : NO_ROOM) {
            refuses(Check.INDEX, "the first room", x -> x.addDoor(room, 0, 1));
            refuses(Check.INDEX, "the second room", x -> x.addDoor(0, room, 1));
            refuses(Check.INDEX, "both, which are the same", x -> x.addDoor(room, room, 1));
            refuses(Check.INDEX, "the first room and the noise", x -> x.addDoor(room, 0, -1));
            refuses(Check.INDEX, "the second room and the noise", x -> x.addDoor(0, room, 10));
        }
        for (int noise : new int[] {Integer.MIN_VALUE, -1, 10, Integer.MAX_VALUE}) {
            refuses(Check.ARGUMENT, "the noise", x -> x.addDoor(0, 2, noise));
            refuses(Check.ARGUMENT, "the noise of a room and itself", x -> x.addDoor(2, 2, noise));
            refuses(Check.ARGUMENT, "the noise of a second door", x -> x.addDoor(0, 1, noise));
        }
        refuses(Check.ARGUMENT, "a room and itself", x -> x.addDoor(1, 1, 5));
        refuses(Check.STATE, "a second door", x -> x.addDoor(0, 1, 5));
        refuses(Check.STATE, "a second door the other way", x -> x.addDoor(2, 1, 5));
    }

    // Rest: "If several exceptions apply to a call, the one that stands first in the throws clause is thrown."
    private static void fullHouse() {
        Twins.Step rooms = x -> {
            Houses.read(x, Houses.rooms(12, 5));
            x.earnCoins(1);
            Houses.feed(x, "m");
        };
        Twins.refuses(Check.STATE, "the 13th room", rooms, x -> x.addRoom(5));
        Twins.refuses(Check.ARGUMENT, "the coldness of a 13th room", rooms, x -> x.addRoom(100));
        Twins.Step doors = x -> {
            Houses.read(x, Houses.rooms(8, 5) + Houses.doors(24, 1));
            x.earnCoins(1);
        };
        Twins.refuses(Check.STATE, "the 25th door", doors, x -> x.addDoor(6, 7, 1));
        Twins.refuses(Check.STATE, "the 25th door, a second one", doors, x -> x.addDoor(0, 1, 1));
        Twins.refuses(Check.ARGUMENT, "the noise of a 25th door", doors, x -> x.addDoor(6, 7, 10));
        Twins.refuses(Check.ARGUMENT, "the 25th door, of a room and itself", doors, x -> x.addDoor(6, 6, 1));
        Twins.refuses(Check.INDEX, "the 25th door, of no room", doors, x -> x.addDoor(6, 8, 10));
    }

    // Promise 49: "Throws `IndexOutOfBoundsException` if door is invalid"
    // Promise 50: "Throws `IndexOutOfBoundsException` if room is invalid"
    // Promise 51: "Throws `IndexOutOfBoundsException` if room is invalid"
    private static void doorsAndKit() {
        for (boolean on : new boolean[] {false, true}) {
            for (int door : NO_DOOR) {
                refuses(Check.INDEX, "setDoorOpen", x -> x.setDoorOpen(door, on));
            }
            for (int room : NO_ROOM) {
                refuses(Check.INDEX, "setThermometer", x -> x.setThermometer(room, on));
                refuses(Check.INDEX, "setMicrophone", x -> x.setMicrophone(room, on));
            }
        }
        refuses(Check.STATE, "an open door", x -> x.setDoorOpen(0, true));
        Twins.refuses(Check.STATE, "a closed door", Twins.LIVELY.then(x -> x.setDoorOpen(0, false)),
                x -> x.setDoorOpen(0, false));
        refuses(Check.STATE, "a thermometer", x -> x.setThermometer(1, true));
        refuses(Check.STATE, "no thermometer", x -> x.setThermometer(2, false));
        refuses(Check.STATE, "a microphone", x -> x.setMicrophone(2, true));
        refuses(Check.STATE, "no microphone", x -> x.setMicrophone(1, false));
    }

    // Rest: "If several exceptions apply to a call, the one that stands first in the throws clause is thrown."
    // Promise 52: "Throws `IndexOutOfBoundsException` if room is invalid"
    // Promise 52: "Throws `IllegalArgumentException` if amount is out of range"
    // Promise 52: "Throws `IllegalStateException` if amount is greater than the coldness of the room"
    private static void warm() {
        for (int room : NO_ROOM) {
            refuses(Check.INDEX, "no such room", x -> x.warm(room, 1));
            refuses(Check.INDEX, "no such room nor amount", x -> x.warm(room, 0));
            refuses(Check.INDEX, "no such room nor amount", x -> x.warm(room, 100));
        }
        for (int amount : new int[] {Integer.MIN_VALUE, -1, 0, 100, Integer.MAX_VALUE}) {
            refuses(Check.ARGUMENT, "amount " + amount, x -> x.warm(1, amount));
        }
        // c has coldness 9 - 4 = 5
        refuses(Check.STATE, "one too much", x -> x.warm(2, 6));
        refuses(Check.STATE, "far too much", x -> x.warm(2, 99));
        refuses(Check.ARGUMENT, "too much, and out of range", x -> x.warm(2, 100));
    }

    // Rest: "If several exceptions apply to a call, the one that stands first in the throws clause is thrown."
    // Promise 53: "Throws `IllegalArgumentException` if nights is out of range"
    // Promise 53: "Throws `IllegalStateException` if there is no room, or the night number would exceed 9999"
    private static void passNights() {
        Twins.Step empty = x -> x.earnCoins(5);
        Twins.Step oldest = x -> {
            Houses.read(x, Houses.rooms(2, 5));
            for (int i = 0; i < 4; i++) {
                Houses.script(x, "repeat 20 (nights 50;nights 50;);");
            }
            Houses.script(x, "repeat 19 (nights 50;nights 50;);nights 50;nights 49;");
        };
        for (int nights : new int[] {Integer.MIN_VALUE, -1, 0, 51, Integer.MAX_VALUE}) {
            refuses(Check.ARGUMENT, "nights " + nights, x -> x.passNights(nights));
            Twins.refuses(Check.ARGUMENT, "nights " + nights + " without a room", empty, x -> x.passNights(nights));
            Twins.refuses(Check.ARGUMENT, "nights " + nights + " in night 9999", oldest, x -> x.passNights(nights));
        }
        for (int nights : new int[] {1, 2, 50}) {
            Twins.refuses(Check.STATE, "no room", empty, x -> x.passNights(nights));
            Twins.refuses(Check.STATE, "behind night 9999", oldest, x -> x.passNights(nights));
        }
        GhostRooms last = new GhostRooms();
        oldest.on(last);
        Check.due("the night", last.nightNumber(), 9999);
    }

    // Promise 54: "Throws `IllegalStateException` if no room of the set is possible, every possible room is in the
    //     set, or the price exceeds the number of coins"
    private static void holdSeance() {
        Twins.Step past = x -> {
            Houses.read(x, Houses.rooms(4, 5) + "coins 8;price 4;ghost b;");
            x.holdSeance(0b1000);
            x.saveState();
            x.setMode(1);
        };
        for (int set : new int[] {0, 0b1000, ~0b1111, ~0b0111}) {
            Twins.refuses(Check.STATE, "no possible room in " + set, past, x -> x.holdSeance(set));
        }
        for (int set : new int[] {0b0111, 0b1111, -1, Integer.MAX_VALUE}) {
            Twins.refuses(Check.STATE, "every possible room in " + set, past, x -> x.holdSeance(set));
        }
        Twins.refuses(Check.STATE, "too dear", past.then(x -> x.setSeancePrice(5)), x -> x.holdSeance(1));
        Twins.refuses(Check.STATE, "no coins", past.then(x -> x.holdSeance(1)), x -> x.holdSeance(2));
        Twins.refuses(Check.STATE, "no house", x -> x.earnCoins(1), x -> x.holdSeance(1));
    }

    // Rest: "If several exceptions apply to a call, the one that stands first in the throws clause is thrown."
    // Promise 55: "Throws `IllegalArgumentException` if amount is out of range"
    // Promise 55: "Throws `IllegalStateException` if the number of coins would exceed 999"
    private static void earnCoins() {
        Twins.Step rich = x -> {
            Houses.read(x, "house;coins 950;");
            x.earnCoins(49);
        };
        for (int amount : new int[] {Integer.MIN_VALUE, -1, 0, 100, Integer.MAX_VALUE}) {
            refuses(Check.ARGUMENT, "amount " + amount, x -> x.earnCoins(amount));
            Twins.refuses(Check.ARGUMENT, "amount " + amount + " at 999", rich, x -> x.earnCoins(amount));
        }
        for (int amount : new int[] {1, 99}) {
            Twins.refuses(Check.STATE, "beyond 999", rich, x -> x.earnCoins(amount));
        }
    }

    // Promise 56: "Throws `IllegalArgumentException` if value is out of range"
    // Promise 57: "Throws `IllegalArgumentException` if value is out of range"
    // Promise 58: "Throws `IllegalArgumentException` if value is out of range"
    // Promise 59: "Throws `IllegalArgumentException` if value is out of range"
    // Promise 60: "Throws `IllegalArgumentException` if value is out of range"
    private static void settings() {
        for (int value : new int[] {Integer.MIN_VALUE, -1, 3, Integer.MAX_VALUE}) {
            refuses(Check.ARGUMENT, "setMode " + value, x -> x.setMode(value));
        }
        for (int value : new int[] {Integer.MIN_VALUE, -1, 0, 10, Integer.MAX_VALUE}) {
            refuses(Check.ARGUMENT, "setChill " + value, x -> x.setChill(value));
            refuses(Check.ARGUMENT, "setSeancePrice " + value, x -> x.setSeancePrice(value));
        }
        for (int value : new int[] {Integer.MIN_VALUE, -1, 10, Integer.MAX_VALUE}) {
            refuses(Check.ARGUMENT, "setHearingThreshold " + value, x -> x.setHearingThreshold(value));
        }
        for (int value : new int[] {Integer.MIN_VALUE, -1, 16, Integer.MAX_VALUE}) {
            refuses(Check.ARGUMENT, "setRandomState " + value, x -> x.setRandomState(value));
        }
    }

    // Promise 61: "Throws `IllegalStateException` if there is none to undo"
    // Promise 63: "Throws `IndexOutOfBoundsException` if the output has no such byte"
    // Promise 65: "Throws `IllegalStateException` if no state is saved"
    private static void undoAndOutput() {
        Twins.Step lively = Twins.LIVELY;
        Twins.refuses(Check.STATE, "six calls undone", lively.then(Twins::undone), GhostRooms::undo);
        Twins.refuses(Check.STATE, "behind a description", lively.then(GhostRooms::readText), GhostRooms::undo);
        Twins.refuses(Check.STATE, "behind a restored state", lively.then(GhostRooms::restoreState), GhostRooms::undo);
        Twins.refuses(Check.STATE, "a new object", x -> { }, GhostRooms::undo);
        Twins.refuses(Check.STATE, "no state is saved", x -> { }, GhostRooms::restoreState);
        Twins.Step unsaved = x -> {
            Houses.read(x, Houses.rooms(2, 5));
            x.passNights(3);
            x.printReport();
        };
        Twins.refuses(Check.STATE, "no state is saved", unsaved, GhostRooms::restoreState);
        // the report of LIVELY has 18 bytes or fewer
        for (int index : new int[] {Integer.MIN_VALUE, -1, 19, 192, Integer.MAX_VALUE}) {
            refuses(Check.INDEX, "byte " + index, x -> x.outputByte(index));
        }
        Twins.refuses(Check.INDEX, "no output", x -> { }, x -> x.outputByte(0));
    }

    // Promise 4: "Throws `IllegalArgumentException` if the text has an error; then only the input buffer and the
    //     error change"
    private static void texts() {
        String house = "house;room a 1;room z 2 thermo;door a z 3;mode 0;coins 9;nights 7;";
        text("", 1, 0);
        text("house", 1, 5);
        text(house + "#", 1, house.length());
        text(house + "mode 3;", 2, house.length() + 5);
        text(house + "room z 5;", 3, house.length() + 5);
        text(house + "ghost b;", 4, house.length() + 6);
        text(Houses.rooms(12, 5) + "room", 5, Houses.rooms(12, 5).length());
        text(Houses.rooms(8, 5) + Houses.doors(24, 5) + "door", 5, 6 + 8 * 9 + 24 * 11);
        text(house + "door z a 5;", 6, house.length() + 7);
        text("house;nights 1;", 6, 6);
    }

    private static void text(String text, int code, int offset) {
        Twins.refusesText("'" + text + "'", Twins.LIVELY, text, GhostRooms::readText, code, offset);
    }

    // Promise 5: "Throws `IllegalArgumentException` if the text has an error; then only the input buffer and the
    //     error change"
    private static void scripts() {
        String work = "nights 7;earn 5;mode 0;thermo c on;repeat 2 (chill 9;);";
        script("earn", 1, 4);
        script(work + "earn 1", 1, work.length() + 6);
        script(work + "repeat 0 ();", 2, work.length() + 7);
        script(work + "repeat 1 (repeat 1 (repeat", 3, work.length() + 20);
        script(work + "ask z;", 4, work.length() + 4);
        script(work + "earn 1;".repeat(24) + "earn 1;", 5, work.length() + 24 * 7);
        script(work + "open a c;", 6, work.length() + 7);
    }

    private static void script(String text, int code, int offset) {
        Twins.refusesText("'" + text + "'", Twins.LIVELY, text, GhostRooms::runScript, code, offset);
    }
}
