/** Promises 8 to 21, 23 to 34, 39 and 40: settings, counters, rooms and doors. */
public final class QueryTest {
    private static final int NONE = GhostRooms.NONE;
    private static final int[] WRONG = {-1, 3, Integer.MIN_VALUE, Integer.MAX_VALUE};

    private interface Query {
        Object at(int index);
    }

    public static void main(String[] args) {
        settingsAndCounters();
        rooms();
        names();
        neighbors();
        coldnessOrder();
        doors();
        monitoredDoors();
        doorsBetween();
        quietestPaths();
        means();
        emptyHouse();
        Check.end();
    }

    private static void wrongIndexes(GhostRooms x, String what, Query query) {
        for (int index : WRONG) {
            Check.refused(x, IndexOutOfBoundsException.class, what + "(" + index + ")", () -> query.at(index));
        }
    }

    private static void settingsAndCounters() {
        GhostRooms x = Houses.house("house;room a 1;room b 1;door a b 2;"
                + "mode 2;chill 4;hearing 6;price 5;random 9;coins 77;");
        Check.due("mode", x.mode(), 2);
        Check.due("chill", x.chill(), 4);
        Check.due("hearingThreshold", x.hearingThreshold(), 6);
        Check.due("seancePrice", x.seancePrice(), 5);
        Check.due("randomState", x.randomState(), 9);
        Check.due("coins", x.coins(), 77);
        Check.due("coinsSpent", x.coinsSpent(), 0);
        x.holdSeance(1);
        Check.due("coins", x.coins(), 72);
        Check.due("coinsSpent", x.coinsSpent(), 5);
        x.passNights(1);
        Check.due("randomState after a night: (5 * 9 + 3) modulo 16", x.randomState(), 0);
        Check.due("no move", x.ghostMoves(), 0);
        x.passNights(1);
        Check.due("randomState after two", x.randomState(), 3);
        Check.due("a move", x.ghostMoves(), 1);
        Check.due("nights", x.nightNumber(), 2);
        Check.due("rooms", x.roomCount(), 2);
        Check.due("doors", x.doorCount(), 1);
        Check.due("ghost", x.ghostRoom(), 1);
        x.earnCoins(9);
        Check.due("earning is no spending", x.coinsSpent(), 5);
    }

    private static void rooms() {
        GhostRooms x = Houses.house("house;room a 0;room b 99 thermo;room c 7 micro;");
        Check.due("coldness", x.coldness(0) + " " + x.coldness(1) + " " + x.coldness(2), "0 99 7");
        Check.no("thermometer of a", x.hasThermometer(0));
        Check.yes("thermometer of b", x.hasThermometer(1));
        Check.no("thermometer of c", x.hasThermometer(2));
        Check.no("microphone of a", x.hasMicrophone(0));
        Check.no("microphone of b", x.hasMicrophone(1));
        Check.yes("microphone of c", x.hasMicrophone(2));
        Check.due("possible", x.possibleRooms(), 7);
        Check.due("ghost", x.ghostRoom(), 0);
        wrongIndexes(x, "coldness", x::coldness);
        wrongIndexes(x, "hasThermometer", x::hasThermometer);
        wrongIndexes(x, "hasMicrophone", x::hasMicrophone);
        wrongIndexes(x, "neighbors", x::neighbors);
    }

    private static void names() {
        GhostRooms x = Houses.house("house;room abcdefgz 1;room q 2;room zy 3;");
        String name = "abcdefgz";
        for (int i = 0; i < 8; i++) {
            Check.due("byte " + i, x.nameByte(0, i), (int) name.charAt(i));
        }
        Check.due("byte 8", x.nameByte(0, 8), NONE);
        Check.due("byte -1", x.nameByte(0, -1), NONE);
        Check.due("least", x.nameByte(0, Integer.MIN_VALUE), NONE);
        Check.due("most", x.nameByte(0, Integer.MAX_VALUE), NONE);
        Check.due("q", x.nameByte(1, 0), (int) 'q');
        Check.due("behind q", x.nameByte(1, 1), NONE);
        Check.due("z", x.nameByte(2, 0), (int) 'z');
        Check.due("y", x.nameByte(2, 1), (int) 'y');
        wrongIndexes(x, "nameByte", room -> x.nameByte(room, 0));
    }

    // Promise 26: "Returns the neighbors of a room. - `room`: index of a room Returns the set of its neighbors."
    private static void neighbors() {
        GhostRooms x = Houses.house("house;room a 1;room b 1;room c 1;room d 1;"
                + "door c a 1;door a b 1 closed;door d a 1;");
        Check.due("of a", x.neighbors(0), 0b1100);
        Check.due("of b", x.neighbors(1), 0);
        Check.due("of c", x.neighbors(2), 0b0001);
        Check.due("of d", x.neighbors(3), 0b0001);
        x.setDoorOpen(1, true);
        Check.due("of a, opened", x.neighbors(0), 0b1110);
        Check.due("of b, opened", x.neighbors(1), 0b0001);
    }

    private static void coldnessOrder() {
        GhostRooms x = Houses.house("house;room a 5;room b 9;room c 5;room d 99;room e 0;room f 9;");
        int[] order = {3, 1, 5, 0, 2, 4};
        for (int rank = 0; rank < order.length; rank++) {
            Check.due("rank " + rank, x.roomByColdness(rank), order[rank]);
        }
        for (int rank : new int[] {-1, 6, 12, Integer.MIN_VALUE, Integer.MAX_VALUE}) {
            Check.due("rank " + rank, x.roomByColdness(rank), NONE);
        }
    }

    private static void doors() {
        GhostRooms x = Houses.house("house;room a 1;room b 1;room c 1;door c a 0;door b c 9 closed;door a b 4;");
        int[] low = {0, 1, 0};
        int[] high = {2, 2, 1};
        int[] noise = {0, 9, 4};
        for (int door = 0; door < 3; door++) {
            Check.due("low room of " + door, x.lowRoom(door), low[door]);
            Check.due("high room of " + door, x.highRoom(door), high[door]);
            Check.due("noise of " + door, x.noise(door), noise[door]);
            Check.due("open " + door, x.isOpen(door), door != 1);
        }
        wrongIndexes(x, "lowRoom", x::lowRoom);
        wrongIndexes(x, "highRoom", x::highRoom);
        wrongIndexes(x, "noise", x::noise);
        wrongIndexes(x, "isOpen", x::isOpen);
        wrongIndexes(x, "isMonitored", x::isMonitored);
    }

    private static void monitoredDoors() {
        GhostRooms x = Houses.house("house;room a 1 micro;room b 1;room c 1;room d 1 micro;"
                + "door a b 5;door b c 9;door c d 4;door d b 6 closed;door a d 5;");
        String monitored = "";
        for (int door = 0; door < 5; door++) {
            monitored += x.isMonitored(door) ? "1" : "0";
        }
        Check.due("monitored", monitored, "10011");
        x.setHearingThreshold(4);
        Check.yes("at the threshold", x.isMonitored(2));
        x.setHearingThreshold(6);
        Check.no("below the threshold", x.isMonitored(0));
        x.setMicrophone(3, false);
        Check.no("no microphone", x.isMonitored(3));
        x.setHearingThreshold(0);
        Check.no("no microphone at threshold 0", x.isMonitored(1));
        Check.yes("one microphone", x.isMonitored(4));
    }

    private static void doorsBetween() {
        GhostRooms x = Houses.house("house;room a 1;room b 1;room c 1;door c a 0;door b c 9 closed;");
        Check.due("a c", x.doorBetween(0, 2), 0);
        Check.due("c a", x.doorBetween(2, 0), 0);
        Check.due("closed", x.doorBetween(1, 2), 1);
        Check.due("none", x.doorBetween(0, 1), NONE);
        Check.due("same", x.doorBetween(1, 1), NONE);
        wrongIndexes(x, "doorBetween first", room -> x.doorBetween(room, 0));
        wrongIndexes(x, "doorBetween second", room -> x.doorBetween(0, room));
        wrongIndexes(x, "doorBetween both", room -> x.doorBetween(room, room));
    }

    private static void quietestPaths() {
        GhostRooms x = Houses.house("house;room a 1;room b 1;room c 1;room d 1;room e 1;"
                + "door a b 9;door a c 2;door c b 3;door b d 0;door c d 9;");
        int[][] lengths = {{0, 5, 2, 5, -1}, {5, 0, 3, 0, -1}, {2, 3, 0, 3, -1}, {5, 0, 3, 0, -1}, {-1, -1, -1, -1, 0}};
        for (int room = 0; room < 5; room++) {
            for (int other = 0; other < 5; other++) {
                Check.due("path " + room + " " + other, x.quietestPath(room, other), lengths[room][other]);
            }
        }
        x.setDoorOpen(2, false);
        Check.due("round the closed door", x.quietestPath(0, 1), 9);
        Check.due("round the closed door", x.quietestPath(2, 1), 9);
        x.setDoorOpen(0, false);
        Check.due("the last way", x.quietestPath(0, 1), 11);
        x.setDoorOpen(4, false);
        Check.due("no way", x.quietestPath(0, 1), NONE);
        Check.due("no violations", x.violations(), 0);
        GhostRooms y = Houses.house("house;room a 1;room b 1;room c 1;door a b 1;");
        wrongIndexes(y, "quietestPath first", room -> y.quietestPath(room, 0));
        wrongIndexes(y, "quietestPath second", room -> y.quietestPath(0, room));
        wrongIndexes(y, "quietestPath both", room -> y.quietestPath(room, room));
        longestPath();
    }

    private static void longestPath() {
        StringBuilder text = new StringBuilder("house;");
        for (char c = 'a'; c <= 'l'; c++) {
            text.append("room ").append(c).append(" 1;");
        }
        for (char c = 'l'; c > 'a'; c--) {
            text.append("door ").append(c).append(" ").append((char) (c - 1)).append(" 9;");
        }
        GhostRooms x = Houses.house(text.toString());
        Check.due("eleven doors", x.quietestPath(0, 11), 99);
        Check.due("eleven doors back", x.quietestPath(11, 0), 99);
    }

    private static void means() {
        GhostRooms x = Houses.house("house;room a 1;room b 2;room c 2;");
        Check.due("mean", x.meanColdness(), 5.0 / 3.0);
        Check.due("fraction", x.possibleFraction(), 1.0f);
        x.holdSeance(2);
        Check.due("fraction", x.possibleFraction(), 2.0f / 3.0f);
        x.holdSeance(1);
        Check.due("fraction", x.possibleFraction(), 1.0f / 3.0f);
        GhostRooms y = Houses.house("house;room a 99;room b 98;");
        Check.due("mean", y.meanColdness(), 98.5);
    }

    private static void emptyHouse() {
        GhostRooms x = new GhostRooms();
        Check.due("mean", x.meanColdness(), 0.0);
        Check.due("fraction", x.possibleFraction(), 0.0f);
        Check.due("violations", x.violations(), 0);
        Check.due("rank 0", x.roomByColdness(0), NONE);
        Check.due("possible", x.possibleRooms(), 0);
        Check.refused(x, IndexOutOfBoundsException.class, "coldness(0)", () -> x.coldness(0));
        Check.refused(x, IndexOutOfBoundsException.class, "lowRoom(0)", () -> x.lowRoom(0));
        Check.refused(x, IndexOutOfBoundsException.class, "doorBetween(0, 0)", () -> x.doorBetween(0, 0));
        Check.refused(x, IndexOutOfBoundsException.class, "quietestPath(0, 0)", () -> x.quietestPath(0, 0));
        Check.refused(x, IndexOutOfBoundsException.class, "exclusionReason(0)", () -> x.exclusionReason(0));
        Check.refused(x, IndexOutOfBoundsException.class, "exclusionEvidence(0)", () -> x.exclusionEvidence(0));
        Check.refused(x, IndexOutOfBoundsException.class, "exclusionSource(0)", () -> x.exclusionSource(0));
        Check.refused(x, IndexOutOfBoundsException.class, "nameByte(0, 0)", () -> x.nameByte(0, 0));
    }
}
