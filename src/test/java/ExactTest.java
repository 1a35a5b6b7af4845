import java.util.ArrayList;
import java.util.List;

/** The possible rooms beside every way that the ghost could have gone, spelled out from the document's sentences. */
public final class ExactTest {
    /** What is known of a way, the rooms in which the ghost was before the first night, after it, and so on. */
    private interface Fact {
        boolean allows(int[] way);
    }

    /** A house at nightfall: where the ghost can go, and what each move would make the sensors report. */
    private static final class Evening {
        final int[] neighbors;
        final boolean[] thermometers;
        final List<int[]> monitored = new ArrayList<>();

        Evening(GhostRooms x) {
            int rooms = x.roomCount();
            neighbors = new int[rooms];
            thermometers = new boolean[rooms];
            for (int room = 0; room < rooms; room++) {
                neighbors[room] = x.neighbors(room);
                thermometers[room] = x.hasThermometer(room) && x.coldness(room) != 99;
            }
            for (int door = 0; door < x.doorCount(); door++) {
                if (x.isMonitored(door)) {
                    monitored.add(new int[] {x.lowRoom(door), x.highRoom(door)});
                }
            }
        }

        boolean canGo(int from, int to) {
            return from == to || contains(neighbors[from], to);
        }

        String reports(int from, int to) {
            StringBuilder text = new StringBuilder();
            for (int room = 0; room < thermometers.length; room++) {
                text.append(thermometers[room] ? "thermometer " + (room == from) + ' ' : "");
            }
            for (int[] door : monitored) {
                boolean passed = from == door[0] && to == door[1] || from == door[1] && to == door[0];
                text.append("door ").append(passed).append(' ');
            }
            return text.toString();
        }
    }

    public static void main(String[] args) {
        destinations();
        sourceRooms();
        everyWay();
        Check.end();
    }

    private static boolean contains(int set, int room) {
        return (set >> room & 1) == 1;
    }

    // Term 3: "Step 5: the ghost is in its destination."
    private static void destinations() {
        for (int number = 0; number < 240; number++) {
            GhostRooms x = Houses.some(number);
            for (int night = 0; night < 4; night++) {
                int due = destination(x);
                x.passNights(1);
                Check.due("the ghost of house " + number + " after night " + night, x.ghostRoom(), due);
            }
        }
    }

    private static int destination(GhostRooms x) {
        int here = x.ghostRoom();
        List<Integer> around = new ArrayList<>();
        for (int room = 0; room < x.roomCount(); room++) {
            if (contains(x.neighbors(here), room)) {
                around.add(room);
            }
        }
        if (x.mode() == 2) {
            int k = (5 * x.randomState() + 3) % 16 % (around.size() + 1);
            return k == 0 ? here : around.get(k - 1);
        }
        int best = here;
        int least = x.mode() == 0 ? x.coldness(here) : 10;
        for (int room : around) {
            int value = x.mode() == 0 ? x.coldness(room) : x.noise(x.doorBetween(here, room));
            best = value < least ? room : best;
            least = Math.min(value, least);
        }
        return best;
    }

    // Term 3: "A room r is possible after the night if there is a source room q with three properties: q was possible
    //     before the night, q equals r or is a neighbor of r, and a ghost that moves from q to r would produce exactly
    //     the reports of step 4."
    private static void sourceRooms() {
        for (int number = 0; number < 240; number++) {
            GhostRooms x = Houses.some(number);
            for (int night = 0; night < 5; night++) {
                Evening evening = new Evening(x);
                int before = x.possibleRooms();
                int from = x.ghostRoom();
                x.passNights(1);
                String reports = evening.reports(from, x.ghostRoom());
                int due = 0;
                for (int r = 0; r < evening.neighbors.length; r++) {
                    for (int q = 0; q < evening.neighbors.length; q++) {
                        boolean source = contains(before, q) && evening.canGo(q, r)
                                && evening.reports(q, r).equals(reports);
                        due |= source ? 1 << r : 0;
                    }
                }
                Check.due("house " + number + " after night " + night, x.possibleRooms(), due);
            }
        }
    }

    // Rest: "A simulator of a ghost that moves through a house at night, with an exact belief-state tracker: it
    //     maintains the set of rooms in which the ghost can be, given everything that sensors and seances have
    //     reported."
    private static void everyWay() {
        int known = 0;
        for (int number = 0; number < 120; number++) {
            GhostRooms x = Houses.some(number);
            List<Evening> evenings = new ArrayList<>();
            List<Fact> facts = new ArrayList<>();
            for (int night = 0; night < 5; night++) {
                ask(x, night, 1 << (number + night) % x.roomCount() | 1, facts);
                live(x, evenings, facts);
                Check.due("house " + number + " after night " + night, x.possibleRooms(),
                        lastRooms(x, evenings, facts));
                changeTheHouse(x, number + night);
            }
            known += Integer.bitCount(x.possibleRooms()) == 1 ? 1 : 0;
        }
        Check.yes("houses in which the ghost is known in the end: " + known, known > 10 && known < 110);
    }

    /** Between the nights; a change that is refused is left out. */
    private static void changeTheHouse(GhostRooms x, int dice) {
        Check.outcome(() -> x.setThermometer(dice % x.roomCount(), dice % 3 > 0));
        Check.outcome(() -> x.setMicrophone(dice % x.roomCount(), dice % 4 > 0));
        Check.outcome(() -> x.setDoorOpen(dice % 5, dice % 2 == 0));
        Check.outcome(() -> x.warm(x.ghostRoom(), 1));
    }

    private static void ask(GhostRooms x, int night, int set, List<Fact> facts) {
        Object answer = Check.outcome(() -> x.holdSeance(set));
        if (answer instanceof Boolean) {
            facts.add(way -> contains(set, way[night]) == (Boolean) answer);
        }
    }

    private static void live(GhostRooms x, List<Evening> evenings, List<Fact> facts) {
        Evening evening = new Evening(x);
        int night = evenings.size();
        int from = x.ghostRoom();
        x.passNights(1);
        String reports = evening.reports(from, x.ghostRoom());
        evenings.add(evening);
        facts.add(way -> evening.reports(way[night], way[night + 1]).equals(reports));
    }

    /** Where the ways end that all facts allow. */
    private static int lastRooms(GhostRooms x, List<Evening> evenings, List<Fact> facts) {
        int rooms = 0;
        for (int first = 0; first < x.roomCount(); first++) {
            int[] way = new int[evenings.size() + 1];
            way[0] = first;
            rooms |= lastRooms(way, 0, evenings, facts);
        }
        return rooms;
    }

    private static int lastRooms(int[] way, int night, List<Evening> evenings, List<Fact> facts) {
        if (night == evenings.size()) {
            for (Fact fact : facts) {
                if (!fact.allows(way)) {
                    return 0;
                }
            }
            return 1 << way[night];
        }
        int rooms = 0;
        for (int next = 0; next < evenings.get(night).neighbors.length; next++) {
            if (evenings.get(night).canGo(way[night], next)) {
                way[night + 1] = next;
                rooms |= lastRooms(way, night + 1, evenings, facts);
            }
        }
        return rooms;
    }
}
