/** Terms 3 and 4, promises 16, 20, 35 to 38, 53 and 54: nights, seances and the reasons of exclusion. */
public final class NightTest {
    private static final int NONE = GhostRooms.NONE;

    public static void main(String[] args) {
        warmestRoom();
        quietestDoor();
        randomRoom();
        chillAndItsLimit();
        thermometers();
        doorReports();
        reasonsInOrder();
        lowestSourceAndEvidence();
        sameDoorTheOtherWay();
        addedRooms();
        passNights();
        lastNight();
        positiveSeance();
        negativeSeance();
        refusedSeances();
        reasonsAreRenewed();
        Check.end();
    }

    private static String why(GhostRooms x, int room) {
        return x.exclusionReason(room) + " " + x.exclusionEvidence(room) + " " + x.exclusionSource(room);
    }

    private static int roomAfterOneNight(String text) {
        GhostRooms x = Houses.house(text);
        x.passNights(1);
        return x.ghostRoom();
    }

    // Term 3: "Step 2: the ghost chooses its destination."
    private static void warmestRoom() {
        String rooms = "house;room a 5;room b 5;room c 4;room d 4;room e 3;room f 0;";
        String doors = "door a b 1;door a d 1;door a c 1;door a e 1 closed;door c f 1;";
        Check.due("lowest of several", roomAfterOneNight(rooms + doors), 2);
        Check.due("stays among equals", roomAfterOneNight("house;room a 5;room b 5;ghost b;door a b 0;"), 1);
        Check.due("stays in the warmest", roomAfterOneNight("house;room a 6;room b 5;ghost b;door a b 0;"), 1);
        Check.due("goes to a lower number", roomAfterOneNight("house;room a 4;room b 5;ghost b;door a b 0;"), 0);
        Check.due("alone", roomAfterOneNight("house;room a 4;"), 0);
        // the chill of the night comes after the choice
        Check.due("chosen before the chill", roomAfterOneNight("house;room a 5;room b 5;door a b 0;chill 9;"), 0);
    }

    private static void quietestDoor() {
        String rooms = "house;room a 0;room b 9;room c 9;room d 9;room e 9;mode 1;";
        Check.due("quietest", roomAfterOneNight(rooms + "door a b 5;door a c 4;door a d 6;"), 2);
        Check.due("lowest room of several", roomAfterOneNight(rooms + "door a d 4;door a c 4;door a b 5;"), 2);
        Check.due("noise 9", roomAfterOneNight(rooms + "door a e 9;"), 4);
        Check.due("not behind a closed door", roomAfterOneNight(rooms + "door a b 0 closed;door a c 9;"), 2);
        Check.due("stays", roomAfterOneNight(rooms + "door b c 0;door a b 0 closed;"), 0);
        Check.due("to a lower room", roomAfterOneNight(rooms + "door a c 1;door c d 0;door b d 0;ghost d;"), 1);
        Check.due("random state", Houses.house(rooms + "nights 3;").randomState(), 7);
    }

    private static void randomRoom() {
        String rooms = "house;mode 2;room a 0;room b 0;room c 0;room d 0;room e 0;ghost c;"
                + "door c e 0;door c a 0;door c d 0;";
        int[] expected = {2, 0, 3, 4};
        for (int k = 0; k < 4; k++) {
            int before = 0;
            while ((5 * before + 3) % 16 % 4 != k) {
                before++;
            }
            Check.due("k " + k, roomAfterOneNight(rooms + "random " + before + ";"), expected[k]);
        }
        GhostRooms x = Houses.house("house;mode 2;room a 0;");
        int state = 7;
        for (int i = 0; i < 20; i++) {
            x.passNights(1);
            state = (5 * state + 3) % 16;
            Check.due("state without a neighbor " + i, x.randomState(), state);
        }
        Check.due("stays", x.ghostRoom(), 0);
        Check.due("no moves", x.ghostMoves(), 0);
    }

    private static void chillAndItsLimit() {
        GhostRooms x = Houses.house("house;room a 80;room b 0;chill 9;");
        x.passNights(2);
        Check.due("two chills", x.coldness(0), 98);
        x.passNights(1);
        Check.due("not beyond 99", x.coldness(0), 99);
        x.passNights(1);
        Check.due("still 99", x.coldness(0), 99);
        Check.due("another room", x.coldness(1), 0);
        GhostRooms y = Houses.house("house;room a 9;room b 0;door a b 1;chill 4;nights 1;");
        Check.due("the room before the move", y.coldness(0) + " " + y.coldness(1), "13 0");
        Check.due("moves", y.ghostMoves(), 1);
    }

    private static void thermometers() {
        GhostRooms x = Houses.house("house;room a 5;room b 5 thermo;room c 5;door a b 1;nights 1;");
        Check.due("not from b", x.possibleRooms(), 0b111);
        x.passNights(1);
        Check.due("b could be reached from a", x.possibleRooms(), 0b111);
        GhostRooms y = Houses.house("house;room a 5;room b 5 thermo;room c 5;nights 1;");
        Check.due("b is contradicted", y.possibleRooms(), 0b101);
        Check.due("by its own thermometer", why(y, 1), "3 1 1");
        GhostRooms z = Houses.house("house;room a 98 thermo;room b 99 thermo;room c 5;nights 1;");
        Check.due("a at 98 reports, b at 99 does not", z.possibleRooms(), 0b001);
        Check.due("b is contradicted by a", why(z, 1), "3 0 1");
        GhostRooms w = Houses.house("house;room a 99 thermo;room b 5;nights 1;");
        Check.due("nothing is reported", w.possibleRooms(), 0b11);
    }

    private static void doorReports() {
        String text = "house;room a 5;room b 4 micro;room c 9;door a b 6;door b c 5;hearing 5;";
        GhostRooms x = Houses.house(text + "nights 1;");
        Check.due("through door 0", x.possibleRooms(), 0b011);
        Check.due("c can be reached from b or c, without door 0", why(x, 2), "4 0 1");
        Check.due("possible rooms have no reason", why(x, 0) + " " + why(x, 1), "0 -1 -1 0 -1 -1");
        GhostRooms y = Houses.house(text + "hearing 6;ghost b;nights 1;");
        Check.due("b stays, door 0 silent, door 1 not monitored", y.possibleRooms(), 0b111);
        GhostRooms z = Houses.house("house;room a 5;room b 4 micro;door a b 6 closed;nights 1;");
        Check.due("a closed door is silent", z.possibleRooms(), 0b11);
    }

    private static void reasonsInOrder() {
        // a thermometer's contradiction goes before a door's, whatever their numbers
        GhostRooms x = Houses.house("house;room a 9;room b 8 micro;room c 3 thermo;"
                + "door a b 9;door b c 9 closed;nights 1;");
        Check.due("possible", x.possibleRooms(), 0b011);
        Check.due("by the thermometer", why(x, 2), "3 2 2");
        GhostRooms y = Houses.house("house;room a 5;room b 5;room c 0;door a b 1;nights 1;");
        y.holdSeance(0b010);
        Check.due("seance", why(y, 1), "1 1 -1");
        y.holdSeance(0b100);
        Check.due("seance", why(y, 2), "1 1 -1");
        y.passNights(1);
        Check.due("b has a source again", why(y, 1), "0 -1 -1");
        Check.due("c has none", why(y, 2), "2 -1 -1");
    }

    private static void lowestSourceAndEvidence() {
        // d is reached from b and from c; both are contradicted, the answer names b
        GhostRooms x = Houses.house("house;room a 1;room b 9 thermo;room c 9 thermo;room d 9 thermo;"
                + "door d c 1;door d b 1;nights 1;");
        Check.due("possible", x.possibleRooms(), 0b0001);
        Check.due("d", why(x, 3), "3 1 1");
        Check.due("c", why(x, 2), "3 2 2");
        Check.due("b", why(x, 1), "3 1 1");
        // the ghost's own thermometer has the lower number
        GhostRooms y = Houses.house("house;room a 1 thermo;room b 9 thermo;room c 9;door b c 1;nights 1;");
        Check.due("b", why(y, 1), "3 0 1");
        Check.due("c", why(y, 2), "3 0 1");
        // two doors contradict: the one passed and the one that would have been passed
        GhostRooms z = Houses.house("house;room a 9 micro;room b 9 micro;room c 5 micro;room d 1 micro;"
                + "door c d 9;door b a 9;ghost c;nights 1;");
        Check.due("possible", z.possibleRooms(), 0b1100);
        Check.due("a from a: the door passed is silent", why(z, 0), "4 0 0");
        Check.due("b from a: both doors", why(z, 1), "4 0 0");
        // the lowest source alone is explained, though another one is contradicted by a thermometer
        GhostRooms w = Houses.house("house;room a 5;room b 4;room c 9;room d 9 thermo micro;hearing 0;"
                + "door a b 0;door c d 0;nights 1;");
        Check.due("possible", w.possibleRooms(), 0b0111);
        Check.due("d from c through a silent door", why(w, 3), "4 1 2");
    }

    private static void sameDoorTheOtherWay() {
        GhostRooms x = Houses.house("house;room a 5;room b 4 micro;room c 9;door a b 9;nights 1;");
        Check.due("a report has no direction", x.possibleRooms(), 0b011);
        Check.due("c", why(x, 2), "4 0 2");
    }

    private static void addedRooms() {
        GhostRooms x = new GhostRooms();
        Houses.addRoom(x, "a", 9);
        Check.due("the first room is possible", why(x, 0), "0 -1 -1");
        Check.due("the ghost is there", x.ghostRoom(), 0);
        Houses.addRoom(x, "b", 1);
        Houses.addRoom(x, "c", 1);
        Check.due("further rooms are not", x.possibleRooms(), 1);
        Check.due("b", why(x, 1), "5 -1 -1");
        x.addDoor(0, 1, 1);
        x.earnCoins(1);
        Check.due("no night has passed", why(x, 1), "5 -1 -1");
        x.passNights(1);
        Check.due("b is a neighbor", why(x, 1), "0 -1 -1");
        Check.due("c is none", why(x, 2), "2 -1 -1");
        Check.due("violations", x.violations(), 0);
    }

    private static void passNights() {
        GhostRooms x = Houses.house("house;room a 5 thermo;room b 9;door a b 1;");
        for (int nights : new int[] {0, -1, 51, Integer.MIN_VALUE, Integer.MAX_VALUE}) {
            Check.refused(x, IllegalArgumentException.class, "passNights(" + nights + ")", () -> x.passNights(nights));
        }
        Check.due("possible rooms", x.passNights(1), 2);
        Check.due("possible rooms", x.passNights(50), 2);
        Check.due("night", x.nightNumber(), 51);
        GhostRooms y = new GhostRooms();
        Check.refused(y, IllegalStateException.class, "no room", () -> y.passNights(1));
        Check.refused(y, IllegalArgumentException.class, "out of range comes first", () -> y.passNights(0));
    }

    private static void lastNight() {
        GhostRooms x = Houses.house("house;room a 5;room b 5;");
        for (int i = 0; i < 199; i++) {
            x.passNights(50);
        }
        x.passNights(48);
        Check.due("night", x.nightNumber(), 9998);
        Check.refused(x, IllegalStateException.class, "beyond 9999", () -> x.passNights(2));
        Check.refused(x, IllegalStateException.class, "beyond 9999", () -> x.passNights(50));
        Check.refused(x, IllegalArgumentException.class, "out of range comes first", () -> x.passNights(51));
        Check.due("a script ends there", Houses.script(x, "nights 1;nights 1;"), 1);
        Check.due("night", x.nightNumber(), 9999);
        Check.refused(x, IllegalStateException.class, "beyond 9999", () -> x.passNights(1));
        x.holdSeance(2);
        Check.due("seance in night 9999", x.exclusionEvidence(1), 9999);
        Check.due("predictions go beyond", x.ghostRoomAfter(50), 0);
        Check.due("predictions go beyond", x.possibleRoomsAfter(50), 1);
        Check.due("calmest", x.calmestMode(), 0);
        Check.due("still", x.nightNumber(), 9999);
    }

    private static void positiveSeance() {
        GhostRooms x = Houses.house("house;room a 5;room b 5;room c 5;room d 5;ghost b;price 9;nights 2;");
        Check.yes("the ghost is there", x.holdSeance(0b1010 | 0x7fff0000));
        Check.due("only those remain", x.possibleRooms(), 0b1010);
        Check.due("a", why(x, 0), "1 2 -1");
        Check.due("c", why(x, 2), "1 2 -1");
        Check.due("d", why(x, 3), "0 -1 -1");
        Check.due("one price", x.coins() + " " + x.coinsSpent(), "41 9");
        Check.yes("bits of impossible rooms", x.holdSeance(0b0111));
        Check.due("known", x.possibleRooms(), 0b0010);
        Check.due("a keeps its reason", why(x, 0), "1 2 -1");
    }

    private static void negativeSeance() {
        GhostRooms x = Houses.house("house;room a 5;room b 5;room c 5;room d 5;ghost b;");
        Check.no("the ghost is not there", x.holdSeance(0b1100 | 0x80000000));
        Check.due("none of them remains", x.possibleRooms(), 0b0011);
        Check.due("c", why(x, 2), "1 0 -1");
        Check.due("d", why(x, 3), "1 0 -1");
        Check.due("b", why(x, 1), "0 -1 -1");
        Check.due("coins", x.coins() + " " + x.coinsSpent(), "48 2");
        x.passNights(1);
        Check.due("anew in every night", why(x, 2), "2 -1 -1");
        Check.no("again", x.holdSeance(0b0101));
        Check.due("an impossible room keeps its reason", why(x, 2), "2 -1 -1");
        Check.due("a is excluded now", why(x, 0), "1 1 -1");
    }

    private static void refusedSeances() {
        GhostRooms x = Houses.house("house;room a 5;room b 5;room c 5;coins 3;price 4;");
        Check.refused(x, IllegalStateException.class, "too dear", () -> x.holdSeance(1));
        x.earnCoins(1);
        Check.refused(x, IllegalStateException.class, "no room", () -> x.holdSeance(0));
        Check.refused(x, IllegalStateException.class, "no existing room", () -> x.holdSeance(~7));
        Check.refused(x, IllegalStateException.class, "every room", () -> x.holdSeance(7));
        Check.refused(x, IllegalStateException.class, "every bit", () -> x.holdSeance(-1));
        Check.yes("all coins", x.holdSeance(1));
        Check.due("no coins left", x.coins(), 0);
        x.setSeancePrice(1);
        x.earnCoins(9);
        Check.refused(x, IllegalStateException.class, "impossible rooms", () -> x.holdSeance(6));
        Check.refused(x, IllegalStateException.class, "the only possible room", () -> x.holdSeance(1));
    }

    private static void reasonsAreRenewed() {
        GhostRooms x = Houses.house("house;room a 5 thermo;room b 9;room c 9;door b c 1;nights 1;");
        Check.due("b", why(x, 1), "3 0 1");
        x.setThermometer(0, false);
        Check.due("it stays until the next night", why(x, 1), "3 0 1");
        x.passNights(1);
        Check.due("no source now", why(x, 1), "2 -1 -1");
        x.addDoor(0, 1, 9);
        x.setMicrophone(1, true);
        x.passNights(1);
        Check.due("a silent door", why(x, 1), "4 1 0");
        Check.due("c", why(x, 2), "2 -1 -1");
        for (int room : new int[] {-1, 3, Integer.MIN_VALUE, Integer.MAX_VALUE}) {
            Check.refused(x, IndexOutOfBoundsException.class, "reason of " + room, () -> x.exclusionReason(room));
            Check.refused(x, IndexOutOfBoundsException.class, "evidence of " + room, () -> x.exclusionEvidence(room));
            Check.refused(x, IndexOutOfBoundsException.class, "source of " + room, () -> x.exclusionSource(room));
        }
        Check.due("none", x.violations(), 0);
        Check.due("NONE", NONE, -1);
    }
}
