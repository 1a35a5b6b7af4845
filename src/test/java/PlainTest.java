import java.util.ArrayList;
import java.util.Arrays;
import java.util.Comparator;
import java.util.List;

/** Plain sentences of the document that no other test holds, in its order. */
public final class PlainTest {
    private static final int NONE = GhostRooms.NONE;

    public static void main(String[] args) {
        weightedPaths();
        noiseAndState();
        sensorsReportAtNight();
        seanceAsks();
        describedNights();
        numberOfRooms();
        coldnessOfEachRoom();
        kitOfEachRoom();
        sortedRooms();
        noiseOfEachDoor();
        stateOfEachDoor();
        knownBySensors();
        nightAfterNight();
        orderOfTheReport();
        Check.end();
    }

    // Rest: "Quietest paths are shortest paths weighted by door noise."
    private static void weightedPaths() {
        for (int number = 0; number < 120; number++) {
            GhostRooms x = Houses.some(number);
            int[][] noises = noisesOfOpenDoors(x);
            for (int room = 0; room < noises.length; room++) {
                for (int other = 0; other < noises.length; other++) {
                    Check.due("from " + room + " to " + other + " in house " + number, x.quietestPath(room, other),
                            leastNoise(noises, room, other, 1 << room));
                }
            }
        }
    }

    private static int[][] noisesOfOpenDoors(GhostRooms x) {
        int rooms = x.roomCount();
        int[][] noises = new int[rooms][rooms];
        for (int[] row : noises) {
            Arrays.fill(row, NONE);
        }
        for (int door = x.doorCount() - 1; door >= 0; door--) {
            if (x.isOpen(door)) {
                noises[x.lowRoom(door)][x.highRoom(door)] = x.noise(door);
                noises[x.highRoom(door)][x.lowRoom(door)] = x.noise(door);
            }
        }
        return noises;
    }

    /** The least sum of all paths that visit no room twice, or NONE. */
    private static int leastNoise(int[][] noises, int room, int other, int visited) {
        if (room == other) {
            return 0;
        }
        int least = NONE;
        for (int next = 0; next < noises.length; next++) {
            if (noises[room][next] != NONE && (visited >> next & 1) == 0) {
                int rest = leastNoise(noises, next, other, visited | 1 << next);
                int sum = noises[room][next] + rest;
                least = rest != NONE && (least == NONE || sum < least) ? sum : least;
            }
        }
        return least;
    }

    // Term 1: "Each door has a noise level from 0 to 9 and is open or closed."
    private static void noiseAndState() {
        for (int noise = 0; noise <= 9; noise++) {
            for (boolean open : new boolean[] {true, false}) {
                GhostRooms described = Houses.house("house;room a 1;room b 1;door a b " + noise
                        + (open ? ";" : " closed;"));
                Check.due("a described door", described.noise(0) + " " + described.isOpen(0), noise + " " + open);
                GhostRooms added = Houses.house(Houses.rooms(2, 1));
                added.addDoor(0, 1, noise);
                if (!open) {
                    added.setDoorOpen(0, false);
                }
                Check.due("an added door", added.noise(0) + " " + added.isOpen(0), noise + " " + open);
            }
        }
    }

    // Term 3: "Step 4: the sensors report."
    private static void sensorsReportAtNight() {
        GhostRooms x = Houses.house(Houses.rooms(3, 5) + "door a b 9;door b c 9;");
        x.setThermometer(0, true);
        x.setMicrophone(1, true);
        x.setHearingThreshold(0);
        Check.due("no report by day", x.possibleRooms(), 0b111);
        x.passNights(1);
        Check.due("a report at night", x.possibleRooms(), 0b001);
        x.setThermometer(0, false);
        x.setMicrophone(1, false);
        Check.due("what was reported stays known", x.possibleRooms(), 0b001);
        x.passNights(1);
        Check.due("nothing is reported without sensors", x.possibleRooms(), 0b011);
    }

    // Term 4: "A seance asks whether the ghost is in one of some rooms."
    // Promise 54: "Holds a seance, see section 4, and pays for it."
    // Promise 54: "`rooms`: set of rooms; bits that stand for no existing room are ignored Returns whether the ghost
    //     is in one of the rooms."
    private static void seanceAsks() {
        for (int ghost = 0; ghost < 4; ghost++) {
            for (int set = 1; set < 15; set++) {
                GhostRooms x = Houses.house(Houses.rooms(4, 5) + Houses.ghost(ghost));
                boolean due = (set >> ghost & 1) == 1;
                Check.due("is the ghost of room " + ghost + " in " + set, x.holdSeance(set), due);
                Check.due("where it can be", x.possibleRooms(), due ? set : 15 - set);
                Check.due("what is paid", x.coins() + " " + x.coinsSpent(), "48 2");
                Check.due("where it is", x.ghostRoom() + " " + x.nightNumber(), ghost + " 0");
            }
        }
    }

    // Term 5: ""nights" lets 1 to 50 nights pass."
    private static void describedNights() {
        String house = "house;room a 5 thermo;room b 3;room c 9 micro;door a b 7;door b c 6;mode 2;chill 2;";
        for (int nights = 1; nights <= 50; nights++) {
            GhostRooms passed = Houses.house(house);
            passed.passNights(nights);
            Check.due(nights + " nights", Houses.state(Houses.house(house + "nights " + nights + ";")),
                    Houses.state(passed));
            Check.due("the night", passed.nightNumber(), nights);
        }
    }

    // Promise 4: "Returns the number of rooms."
    private static void numberOfRooms() {
        GhostRooms x = new GhostRooms();
        for (int count : new int[] {0, 1, 12, 11, 0, 5, 6, 2, 12, 12}) {
            Check.due("a description of " + count, Houses.read(x, Houses.rooms(count, 5)), count);
            Check.due("rooms behind it", x.roomCount(), count);
        }
    }

    // Promise 23: "Returns the coldness of a room. - `room`: index of a room Returns the coldness."
    private static void coldnessOfEachRoom() {
        for (int cold = 0; cold <= 99; cold++) {
            GhostRooms x = new GhostRooms();
            for (int room = 0; room < 12; room++) {
                Houses.addRoom(x, String.valueOf(Houses.letter(room)), (cold + room * 37) % 100);
            }
            for (int room = 0; room < 12; room++) {
                Check.due("coldness of room " + room, x.coldness(room), (cold + room * 37) % 100);
            }
        }
    }

    // Promise 24: "Tells whether a room has a thermometer. - `room`: index of a room Returns whether it has one."
    // Promise 25: "Tells whether a room has a microphone. - `room`: index of a room Returns whether it has one."
    private static void kitOfEachRoom() {
        for (int chosen = 0; chosen < 12; chosen++) {
            GhostRooms x = Houses.house(Houses.rooms(12, 5));
            x.setThermometer(chosen, true);
            x.setMicrophone(11 - chosen, true);
            for (int room = 0; room < 12; room++) {
                Check.due("a thermometer in room " + room, x.hasThermometer(room), room == chosen);
                Check.due("a microphone in room " + room, x.hasMicrophone(room), room == 11 - chosen);
            }
        }
    }

    // Promise 27: "Returns the room at a rank when rooms are sorted by descending coldness and, for equal coldness, by
    //     ascending index."
    private static void sortedRooms() {
        for (int number = 0; number < 60; number++) {
            GhostRooms x = new GhostRooms();
            List<Integer> rooms = new ArrayList<>();
            for (int room = 0; room < 12; room++) {
                Houses.addRoom(x, String.valueOf(Houses.letter(room)), (number * 7 + room * room * 5) % (2 + number));
                rooms.add(room);
            }
            // a stable sort keeps the rooms of equal coldness in their order
            rooms.sort(Comparator.comparing(x::coldness).reversed());
            for (int rank = 0; rank < 12; rank++) {
                Check.due("rank " + rank + " in house " + number, x.roomByColdness(rank), rooms.get(rank));
            }
        }
    }

    // Promise 30: "Returns the noise level of a door. - `door`: index of a door Returns the noise level."
    private static void noiseOfEachDoor() {
        GhostRooms x = Houses.house(Houses.rooms(8, 5));
        for (int door = 0; door < 24; door++) {
            x.addDoor(door % 8, (door % 8 + 1 + door / 8) % 8, door * 7 % 10);
        }
        for (int door = 0; door < 24; door++) {
            Check.due("noise of door " + door, x.noise(door), door * 7 % 10);
        }
    }

    // Promise 31: "Tells whether a door is open. - `door`: index of a door Returns whether it is open."
    private static void stateOfEachDoor() {
        for (int chosen = 0; chosen < 24; chosen++) {
            GhostRooms x = Houses.house(Houses.rooms(8, 5) + Houses.doors(24, 1));
            x.setDoorOpen(chosen, false);
            for (int door = 0; door < 24; door++) {
                Check.due("door " + door + " is open", x.isOpen(door), door != chosen);
            }
        }
    }

    // Promise 43: "Predicts when the room of the ghost becomes known by sensors alone."
    private static void knownBySensors() {
        int later = 0;
        for (int number = 0; number < 240; number++) {
            GhostRooms x = Houses.some(number);
            int predicted = x.nightsUntilKnown();
            int nights = 0;
            while (nights <= 50 && Integer.bitCount(x.possibleRooms()) != 1) {
                x.passNights(1);
                nights++;
            }
            Check.due("house " + number, predicted, nights <= 50 ? nights : NONE);
            later += predicted > 1 ? 1 : 0;
        }
        Check.yes("houses in which it takes more than a night: " + later, later > 0);
    }

    // Promise 53: "Lets nights pass one after another."
    private static void nightAfterNight() {
        for (int number = 0; number < 50; number++) {
            int nights = number + 1;
            GhostRooms together = Houses.some(number);
            GhostRooms apart = Houses.some(number);
            int possible = 0;
            for (int night = 0; night < nights; night++) {
                possible = apart.passNights(1);
            }
            Check.due("possible rooms", together.passNights(nights), possible);
            Check.due("house " + number, Houses.state(together), Houses.state(apart));
        }
    }

    // Promise 62: "It has one line for each room, in the order of roomByColdness()"
    private static void orderOfTheReport() {
        for (int number = 0; number < 60; number++) {
            GhostRooms x = Houses.some(number);
            x.passNights(1 + number % 5);
            StringBuilder due = new StringBuilder();
            for (int rank = 0; rank < x.roomCount(); rank++) {
                due.append(Houses.name(x, x.roomByColdness(rank))).append(' ');
            }
            StringBuilder names = new StringBuilder();
            for (String line : Houses.output(x, x.printReport()).split("\n")) {
                names.append(line, 0, line.indexOf(' ') + 1);
            }
            Check.due("the rooms of report " + number, names.toString(), due.toString());
        }
    }
}
