/** The edges of promises 41 to 46: predictions, each beside the nights and changes that it predicts. */
public final class EdgePredictionTest {
    private static final int NONE = GhostRooms.NONE;

    public static void main(String[] args) {
        nightsOutOfRange();
        predictedNights();
        beyondTheLastNight();
        predictionsChangeNothing();
        knownAtOnce();
        knownAtTheLastNight();
        neverKnown();
        everyRoomHasAThermometer();
        lowestBestThermometer();
        bestThermometer();
        smallestCalmestMode();
        calmestOfTenNights();
        hardlyCalm();
        noOpenDoor();
        lowestImportantDoor();
        changesToAndFromNone();
        mostImportantDoor();
        Check.end();
    }

    // Promise 41: "Throws `IllegalArgumentException` if nights is out of range"
    // Promise 41: "`nights`: number of further nights, 0 to 50"
    // Promise 42: "Throws `IllegalArgumentException` if nights is out of range"
    // Promise 42: "`nights`: number of further nights, 0 to 50"
    private static void nightsOutOfRange() {
        for (GhostRooms x : new GhostRooms[] {new GhostRooms(), Houses.house(Houses.rooms(12, 5))}) {
            int rooms = x.roomCount();
            for (int nights : new int[] {Integer.MIN_VALUE, -1, 0, 1, 49, 50, 51, Integer.MAX_VALUE}) {
                boolean taken = nights >= 0 && nights <= 50;
                Check.due("the ghost after " + nights, Check.outcome(() -> x.ghostRoomAfter(nights)),
                        taken ? rooms == 0 ? NONE : 0 : "IllegalArgumentException");
                Check.due("the rooms after " + nights, Check.outcome(() -> x.possibleRoomsAfter(nights)),
                        taken ? (1 << rooms) - 1 : "IllegalArgumentException");
            }
        }
    }

    // Promise 41: "Returns its room after that many nights; NONE if there is no room."
    // Promise 41: "Predicts the room of the ghost."
    // Promise 42: "Returns the set after that many nights."
    // Promise 42: "Predicts the set of possible rooms."
    private static void predictedNights() {
        for (int number = 0; number < 40; number++) {
            GhostRooms asked = Houses.some(number);
            GhostRooms lived = Houses.some(number);
            for (int nights = 0; nights <= 50; nights++) {
                Check.due("the ghost after " + nights, asked.ghostRoomAfter(nights), lived.ghostRoom());
                Check.due("the rooms after " + nights, asked.possibleRoomsAfter(nights), lived.possibleRooms());
                lived.passNights(1);
            }
        }
    }

    // Rest: "predictions, which change nothing and may go beyond night 9999"
    private static void beyondTheLastNight() {
        String text = "house;room a 5;room b 5;mode 2;door a b 1;";
        GhostRooms x = Houses.houseInNight(text, 9999);
        GhostRooms young = Houses.house("house;room a 99;room b 99;mode 2;door a b 1;random " + x.randomState() + ";"
                + Houses.ghost(x.ghostRoom()));
        for (int nights = 0; nights <= 50; nights++) {
            Check.due("the ghost after " + nights, x.ghostRoomAfter(nights), young.ghostRoomAfter(nights));
            Check.due("the rooms after " + nights, x.possibleRoomsAfter(nights), young.possibleRoomsAfter(nights));
        }
        Check.due("known", x.nightsUntilKnown(), NONE);
        Check.due("thermometer", x.bestThermometerRoom(), 0);
        Check.due("calmest", x.calmestMode(), young.calmestMode());
        Check.due("night", x.nightNumber(), 9999);
    }

    // Rest: "predictions, which change nothing and may go beyond night 9999"
    private static void predictionsChangeNothing() {
        Twins.Step[] predictions = {x -> x.ghostRoomAfter(50), x -> x.possibleRoomsAfter(50),
            GhostRooms::nightsUntilKnown, GhostRooms::bestThermometerRoom, GhostRooms::calmestMode,
            GhostRooms::mostImportantDoor};
        for (Twins.Step prediction : predictions) {
            GhostRooms asked = new GhostRooms();
            GhostRooms spared = new GhostRooms();
            Twins.LIVELY.on(asked);
            Twins.LIVELY.on(spared);
            prediction.on(asked);
            Check.due("state", Houses.describe(asked), Houses.describe(spared));
            Check.due("undo", Twins.undone(asked), Twins.undone(spared));
            Check.due("the saved state", Twins.restored(asked), Twins.restored(spared));
        }
    }

    // Promise 43: "Returns the smallest number of further nights, 0 to 50, after which exactly one room is possible"
    private static void knownAtOnce() {
        Check.due("one room", Houses.house(Houses.rooms(1, 5)).nightsUntilKnown(), 0);
        GhostRooms x = Houses.house(Houses.rooms(2, 5) + "door a b 1;");
        x.holdSeance(1);
        Check.due("known by a seance, and not after a night", x.nightsUntilKnown(), 0);
        Check.due("possible then", x.possibleRoomsAfter(1), 3);
        Check.due("after one night", Houses.house("house;room a 5 thermo;room b 5;").nightsUntilKnown(), 1);
    }

    /** The ghost rests in a until a is colder than b, after one more night than b is colder; then the door tells. */
    private static GhostRooms waiting(int cold) {
        return Houses.house("house;room a 0 micro;room b " + cold + " thermo;room c 0;door a b 9;");
    }

    // Promise 43: "NONE if there is no such number"
    private static void knownAtTheLastNight() {
        Check.due("after 49 nights", waiting(47).nightsUntilKnown(), 49);
        Check.due("after 50 nights", waiting(48).nightsUntilKnown(), 50);
        Check.due("after 51 nights", waiting(49).nightsUntilKnown(), NONE);
        GhostRooms x = waiting(49);
        x.passNights(1);
        Check.due("one night later", x.nightsUntilKnown(), 50);
        x.passNights(50);
        Check.due("then", Integer.bitCount(x.possibleRooms()) + " " + x.nightsUntilKnown(), "1 0");
    }

    // Promise 43: "NONE if there is no such number"
    private static void neverKnown() {
        Check.due("no room", new GhostRooms().nightsUntilKnown(), NONE);
        Check.due("no sensor", Houses.house(Houses.rooms(2, 5)).nightsUntilKnown(), NONE);
        Check.due("twelve rooms", Houses.house(Houses.rooms(12, 5)).nightsUntilKnown(), NONE);
    }

    // Promise 44: "NONE if every room has a thermometer"
    private static void everyRoomHasAThermometer() {
        Check.due("no room", new GhostRooms().bestThermometerRoom(), NONE);
        Check.due("one room with", Houses.house("house;room a 5 thermo;").bestThermometerRoom(), NONE);
        Check.due("one room without", Houses.house("house;room a 5;").bestThermometerRoom(), 0);
        GhostRooms x = Houses.house(Houses.rooms(12, 5));
        for (int room = 0; room < 11; room++) {
            x.setThermometer(room, true);
        }
        Check.due("the last of twelve", x.bestThermometerRoom(), 11);
        x.setThermometer(11, true);
        Check.due("all of twelve", x.bestThermometerRoom(), NONE);
    }

    // Promise 44: "the lowest-numbered of several such rooms"
    private static void lowestBestThermometer() {
        Check.due("two rooms", Houses.house(Houses.rooms(2, 5) + "ghost b;").bestThermometerRoom(), 0);
        Check.due("twelve rooms at 99", Houses.house(Houses.rooms(12, 99)).bestThermometerRoom(), 0);
        Check.due("the first has one",
                Houses.house("house;room a 99 thermo;room b 99;room c 99;").bestThermometerRoom(), 1);
        Check.due("the ghost's is better", Houses.house(Houses.rooms(12, 98) + "ghost l;").bestThermometerRoom(), 11);
        Check.due("the ghost's tells nothing at 99",
                Houses.house(Houses.rooms(11, 98) + "room l 99;ghost l;").bestThermometerRoom(), 0);
    }

    // Promise 44: "Returns the room without a thermometer in which a thermometer would minimize the number of possible
    //     rooms after the next night"
    // Promise 44: "Finds the best room for a further thermometer."
    private static void bestThermometer() {
        for (int number = 0; number < 90; number++) {
            GhostRooms x = Houses.some(number);
            int best = NONE;
            int fewest = 13;
            for (int room = 0; room < x.roomCount(); room++) {
                if (!x.hasThermometer(room)) {
                    x.setThermometer(room, true);
                    int possible = x.passNights(1);
                    x.undo();
                    x.undo();
                    best = possible < fewest ? room : best;
                    fewest = Math.min(possible, fewest);
                }
            }
            Check.due("house " + number, x.bestThermometerRoom(), best);
        }
    }

    // Promise 45: "Returns the mode; the smallest of several such modes."
    private static void smallestCalmestMode() {
        Check.due("no room", new GhostRooms().calmestMode(), 0);
        Check.due("one room", Houses.house(Houses.rooms(1, 5) + "mode 2;").calmestMode(), 0);
        Check.due("closed doors", Houses.house(Houses.rooms(2, 5) + "door a b 1 closed;mode 1;").calmestMode(), 0);
        Check.due("mode 0 rests", Houses.house("house;room a 0;room b 99;door a b 1;mode 1;").calmestMode(), 0);
    }

    // Promise 45: "Finds the movement mode in which the ghost would change its room least often during the next 10
    //     nights."
    private static void calmestOfTenNights() {
        int nine = 0;
        int eleven = 0;
        int moved = 0;
        for (int number = 0; number < 720; number++) {
            String text = "house;room a " + number % 6 + ";room b " + number % 5 + ";room c 0;room d " + number % 3
                    + ";door a b 1;door b c 1;door c d 1;door d a 1;" + (number % 3 == 0 ? "mode 0;nights 30;" : "")
                    + "chill " + (1 + number % 9) + ";random " + number % 16 + ";mode " + number % 3 + ";";
            int due = calmest(text, 10);
            Check.due(text, Houses.house(text).calmestMode(), due);
            nine += due > calmest(text, 9) ? 1 : 0;
            eleven += due > calmest(text, 11) ? 1 : 0;
            moved += due > 0 && number % 3 == 0 ? 1 : 0;
        }
        Check.yes("houses that tell ten nights from nine: " + nine, nine > 0);
        Check.yes("houses that tell ten nights from eleven: " + eleven, eleven > 0);
        Check.yes("houses in which the ghost had moved before: " + moved, moved > 0);
    }

    // Promise 45: "Finds the movement mode in which the ghost would change its room least often during the next 10
    //     nights."
    private static void hardlyCalm() {
        // downhill from a to k, and l beside six of the rooms, so that mode 2 stays only once
        StringBuilder text = new StringBuilder("house;");
        for (int room = 0; room < 11; room++) {
            text.append("room ").append(Houses.letter(room)).append(' ').append(20 - room).append(';');
        }
        text.append("room l 90;");
        for (int room = 0; room < 10; room++) {
            text.append("door ").append(Houses.letter(room)).append(' ').append(Houses.letter(room + 1)).append(" 1;");
        }
        for (char room : "bdefgi".toCharArray()) {
            text.append("door l ").append(room).append(" 1;");
        }
        text.append("random 0;");
        Check.due("moves in ten nights", moves(text, 0) + " " + moves(text, 1) + " " + moves(text, 2), "10 10 9");
        Check.due("nine moves", Houses.house(text.toString()).calmestMode(), 2);
        String ring = Houses.rooms(3, 99) + "door a b 0;door b c 0;door c a 0;ghost c;";
        Check.due("moves in ten nights", moves(ring, 0) + " " + moves(ring, 1), "0 10");
        Check.due("no move at all", Houses.house(ring).calmestMode(), 0);
    }

    private static int moves(CharSequence text, int mode) {
        GhostRooms x = Houses.house(text.toString());
        x.setMode(mode);
        x.passNights(10);
        return x.ghostMoves();
    }

    private static int calmest(String text, int nights) {
        int best = 0;
        int fewest = nights + 1;
        for (int mode = 0; mode < 3; mode++) {
            GhostRooms x = Houses.house(text);
            int before = x.ghostMoves();
            x.setMode(mode);
            x.passNights(nights);
            int moves = x.ghostMoves() - before;
            best = moves < fewest ? mode : best;
            fewest = Math.min(moves, fewest);
        }
        return best;
    }

    // Promise 46: "NONE if no door is open"
    private static void noOpenDoor() {
        Check.due("no room", new GhostRooms().mostImportantDoor(), NONE);
        Check.due("no door", Houses.house(Houses.rooms(12, 5)).mostImportantDoor(), NONE);
        GhostRooms x = Houses.house(Houses.rooms(8, 5) + Houses.doors(24, 1));
        for (int door = 0; door < 23; door++) {
            x.setDoorOpen(door, false);
        }
        Check.due("only the last is open", x.mostImportantDoor(), 23);
        x.setDoorOpen(23, false);
        Check.due("all are closed", x.mostImportantDoor(), NONE);
    }

    // Promise 46: "Returns the door; the lowest-numbered of several such doors"
    private static void lowestImportantDoor() {
        String eight = Houses.rooms(8, 5);
        Check.due("each changes its own pair", Houses.house(eight + Houses.doors(24, 1)).mostImportantDoor(), 0);
        Check.due("none changes a pair", Houses.house(eight + Houses.doors(24, 0)).mostImportantDoor(), 0);
        Check.due("the lowest is closed",
                Houses.house(Houses.rooms(3, 5) + "door a b 0 closed;door a c 0;door b c 0;").mostImportantDoor(), 1);
    }

    // Promise 46: "A change to or from NONE counts as well."
    private static void changesToAndFromNone() {
        Check.due("the last way to two rooms", Houses.house(Houses.rooms(5, 5)
                + "door a b 1;door b c 1;door a c 1;door c d 0;door d e 0;").mostImportantDoor(), 3);
        Check.due("pairs are counted, not sums", Houses.house(Houses.rooms(4, 5)
                + "door a b 9;door c d 0;door b c 0;").mostImportantDoor(), 2);
    }

    // Promise 46: "Finds the most important open door: closing it would change quietestPath() for the largest number of
    //     pairs of rooms."
    private static void mostImportantDoor() {
        for (int number = 0; number < 90; number++) {
            GhostRooms x = Houses.some(number);
            String before = paths(x);
            int best = NONE;
            int most = -1;
            for (int door = 0; door < x.doorCount(); door++) {
                if (x.isOpen(door)) {
                    x.setDoorOpen(door, false);
                    int changed = changed(before, paths(x));
                    x.undo();
                    best = changed > most ? door : best;
                    most = Math.max(changed, most);
                }
            }
            Check.due("house " + number, x.mostImportantDoor(), best);
        }
    }

    private static String paths(GhostRooms x) {
        StringBuilder text = new StringBuilder();
        int count = x.roomCount();
        for (int room = 0; room < count; room++) {
            for (int other = room + 1; other < count; other++) {
                text.append(x.quietestPath(room, other)).append(' ');
            }
        }
        return text.toString();
    }

    private static int changed(String before, String after) {
        String[] old = before.split(" ");
        String[] now = after.split(" ");
        int count = 0;
        for (int i = 0; i < old.length; i++) {
            count += old[i].equals(now[i]) ? 0 : 1;
        }
        return count;
    }
}
