/** Promises 41 to 46: predictions. */
public final class PredictionTest {
    private static final int NONE = GhostRooms.NONE;

    public static void main(String[] args) {
        agreesWithTheNights();
        ranges();
        nightsUntilKnown();
        bestThermometerRoom();
        calmestMode();
        mostImportantDoor();
        emptyHouse();
        Check.end();
    }

    private static final String HOUSE = "house;room a 5 thermo;room b 3;room c 9 micro;room d 4;door a b 4;door b c 7;"
            + "door c d 2;door d a 5;chill 3;mode 2;";

    private static void agreesWithTheNights() {
        GhostRooms x = Houses.house(HOUSE);
        int[] ghost = new int[51];
        int[] possible = new int[51];
        String before = Houses.describe(x);
        for (int n = 0; n <= 50; n++) {
            ghost[n] = x.ghostRoomAfter(n);
            possible[n] = x.possibleRoomsAfter(n);
        }
        Check.due("nothing is changed", Houses.describe(x), before);
        Check.due("nothing can be undone", Check.thrownBy(x::undo), "IllegalStateException");
        for (int n = 0; n <= 50; n++) {
            Check.due("ghost after " + n, ghost[n], x.ghostRoom());
            Check.due("possible after " + n, possible[n], x.possibleRooms());
            x.passNights(1);
        }
    }

    private static void ranges() {
        GhostRooms x = Houses.house(HOUSE);
        for (int n : new int[] {-1, 51, Integer.MIN_VALUE, Integer.MAX_VALUE}) {
            Check.refused(x, IllegalArgumentException.class, "ghostRoomAfter(" + n + ")", () -> x.ghostRoomAfter(n));
            Check.refused(x, IllegalArgumentException.class, "possibleRoomsAfter(" + n + ")",
                    () -> x.possibleRoomsAfter(n));
        }
    }

    private static void nightsUntilKnown() {
        Check.due("one room", Houses.house("house;room a 5;").nightsUntilKnown(), 0);
        Check.due("never", Houses.house("house;room a 5;room b 5;").nightsUntilKnown(), NONE);
        Check.due("one night", Houses.house("house;room a 5 thermo;room b 5;").nightsUntilKnown(), 1);
        // The ghost stays in a until a is colder than b; only when it passes the door, c is excluded.
        String waiting = "house;room a 0 micro;room b %d thermo;room c 0;door a b 9;";
        for (int cold = 0; cold <= 50; cold++) {
            GhostRooms x = Houses.house(String.format(waiting, cold));
            Check.due("b at " + cold, x.nightsUntilKnown(), cold <= 48 ? cold + 2 : NONE);
        }
        GhostRooms x = Houses.house(String.format(waiting, 49));
        String before = Houses.describe(x);
        x.nightsUntilKnown();
        Check.due("nothing is changed", Houses.describe(x), before);
        x.passNights(1);
        Check.due("one night later", x.nightsUntilKnown(), 50);
    }

    private static void bestThermometerRoom() {
        Check.due("ghost's room of two", Houses.house("house;room a 5;room b 5;ghost b;").bestThermometerRoom(), 0);
        // of three closed rooms the ghost's is the best: it excludes both others
        Check.due("ghost's room", Houses.house("house;room a 5;room b 5;room c 5;ghost c;").bestThermometerRoom(), 2);
        Check.due("it has one already", Houses.house("house;room a 5;room b 5;room c 5 thermo;ghost c;")
                .bestThermometerRoom(), 0);
        Check.due("not the cold room", Houses.house("house;room a 5;room b 5;room c 99;ghost c;")
                .bestThermometerRoom(), 0);
        Check.due("every room has one", Houses.house("house;room a 5 thermo;").bestThermometerRoom(), NONE);
        Check.due("one without", Houses.house("house;room a 5 thermo;room b 6 thermo;room c 7;")
                .bestThermometerRoom(), 2);
        GhostRooms x = Houses.house(HOUSE);
        String before = Houses.describe(x);
        x.bestThermometerRoom();
        Check.due("nothing is changed", Houses.describe(x), before);
    }

    private static void calmestMode() {
        Check.due("no doors: all alike", Houses.house("house;room a 5;mode 2;").calmestMode(), 0);
        Check.due("warmest room", Houses.house("house;room a 5;room b 99;door a b 1;mode 1;").calmestMode(), 0);
        // downhill the ghost moves every night in mode 0 and in mode 1, but rests now and then in mode 2
        StringBuilder text = new StringBuilder("house;");
        for (int i = 0; i < 12; i++) {
            text.append("room ").append((char) ('a' + i)).append(' ').append(12 - i).append(';');
        }
        for (int i = 0; i < 11; i++) {
            text.append("door ").append((char) ('a' + i)).append(' ').append((char) ('b' + i)).append(" 1;");
        }
        GhostRooms x = Houses.house(text.toString());
        String before = Houses.describe(x);
        Check.due("random moves", x.calmestMode(), 2);
        Check.due("nothing is changed", Houses.describe(x), before);
        GhostRooms y = Houses.house(text + "mode 2;nights 3;mode 0;ghost a;");
        Check.due("moves before do not count", y.calmestMode(), 2);
        x.passNights(10);
        Check.due("downhill", x.ghostMoves(), 10);
        // ten nights, not more: behind them mode 0 has arrived
        GhostRooms z = Houses.house("house;room a 9;room b 8;room c 7;room d 6;room e 0;"
                + "door a b 1;door b c 1;door c d 1;door d e 1;chill 1;");
        Check.due("four moves and then rest", z.calmestMode(), 0);
    }

    private static void mostImportantDoor() {
        Check.due("no doors", Houses.house("house;room a 5;room b 5;").mostImportantDoor(), NONE);
        Check.due("no open door", Houses.house("house;room a 5;room b 5;door a b 1 closed;").mostImportantDoor(), NONE);
        Check.due("the only open door", Houses.house("house;room a 5;room b 5;room c 5;door a b 1 closed;door b c 0;")
                .mostImportantDoor(), 1);
        String chain = "house;room a 5;room b 5;room c 5;room d 5;";
        Check.due("the middle one", Houses.house(chain + "door a b 1;door b c 1;door c d 1;").mostImportantDoor(), 1);
        Check.due("the middle one, last", Houses.house(chain + "door a b 1;door c d 1;door b c 1;")
                .mostImportantDoor(), 2);
        Check.due("the lowest of several", Houses.house("house;room a 5;room b 5;room c 5;door b c 1;door a b 1;")
                .mostImportantDoor(), 0);
        Check.due("a useless door", Houses.house("house;room a 5;room b 5;room c 5;door a c 9;door b c 1;door a b 1;")
                .mostImportantDoor(), 1);
        Check.due("no change at all", Houses.house("house;room a 5;room b 5;room c 5;door a b 0;door b c 0;door a c 0;")
                .mostImportantDoor(), 0);
        GhostRooms x = Houses.house(chain + "door a b 1;door b c 1 closed;door c d 1;door d a 3;door b d 9;");
        String before = Houses.describe(x);
        // closing c d changes the three pairs with c, closing d a four: a d, a c, b c and b d
        Check.due("more changes than the way to c", x.mostImportantDoor(), 3);
        Check.due("nothing is changed", Houses.describe(x), before);
    }

    private static void emptyHouse() {
        GhostRooms x = new GhostRooms();
        Check.due("ghost", x.ghostRoomAfter(50), NONE);
        Check.due("possible", x.possibleRoomsAfter(50), 0);
        Check.due("known", x.nightsUntilKnown(), NONE);
        Check.due("thermometer", x.bestThermometerRoom(), NONE);
        Check.due("calmest", x.calmestMode(), 0);
        Check.due("door", x.mostImportantDoor(), NONE);
        Check.refused(x, IllegalArgumentException.class, "ghostRoomAfter(51)", () -> x.ghostRoomAfter(51));
        Check.refused(x, IllegalArgumentException.class, "possibleRoomsAfter(-1)", () -> x.possibleRoomsAfter(-1));
    }
}
