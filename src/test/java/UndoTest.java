/** Promises 61, 64 and 65 and term 7: undo and the saved state. */
public final class UndoTest {
    private static final String HOUSE = "house;room a 5;room b 9 thermo;room c 9 micro;door a b 3;door b c 7 closed;";

    public static void main(String[] args) {
        everyUndoableCall();
        latestFirst();
        sixCalls();
        refusedCallsAreNotUndone();
        queriesAreNotUndone();
        whatUndoKeeps();
        undoneCallsCountAnew();
        savedState();
        savedStateIsNoLink();
        restoredStateEndsUndo();
        Check.end();
    }

    private static void everyUndoableCall() {
        undoes("addRoom", x -> Houses.addRoom(x, "d", 4));
        undoes("addDoor", x -> x.addDoor(0, 2, 4));
        undoes("setDoorOpen", x -> x.setDoorOpen(0, false));
        undoes("setDoorOpen", x -> x.setDoorOpen(1, true));
        undoes("setThermometer", x -> x.setThermometer(0, true));
        undoes("setMicrophone", x -> x.setMicrophone(2, false));
        undoes("warm", x -> x.warm(1, 9));
        undoes("passNights", x -> x.passNights(50));
        undoes("holdSeance", x -> x.holdSeance(1));
        undoes("earnCoins", x -> x.earnCoins(9));
        undoes("setMode", x -> x.setMode(2));
        undoes("setChill", x -> x.setChill(9));
        undoes("setHearingThreshold", x -> x.setHearingThreshold(0));
        undoes("setSeancePrice", x -> x.setSeancePrice(9));
        undoes("setRandomState", x -> x.setRandomState(0));
        undoes("setMode, the same", x -> x.setMode(0));
        undoes("runScript", x -> Houses.script(x, "mode 2;nights 7;ask a;earn 3;thermo a on;open b c;"));
        undoes("runScript, empty", x -> Houses.script(x, ""));
    }

    private interface Change {
        void in(GhostRooms x);
    }

    private static void undoes(String what, Change change) {
        GhostRooms x = Houses.house(HOUSE);
        String before = Houses.state(x);
        change.in(x);
        Check.due("undo " + what, x.undo(), 0);
        Check.due("state after undo of " + what, Houses.state(x), before);
        Check.refused(x, IllegalStateException.class, "no more than " + what, x::undo);
        x.passNights(2);
        String later = Houses.state(x);
        change.in(x);
        Check.due("undo " + what, x.undo(), 1);
        Check.due("state after undo of " + what, Houses.state(x), later);
    }

    private static void latestFirst() {
        GhostRooms x = Houses.house(HOUSE);
        String[] states = new String[5];
        states[0] = Houses.state(x);
        x.passNights(3);
        states[1] = Houses.state(x);
        x.holdSeance(1);
        states[2] = Houses.state(x);
        Houses.addRoom(x, "d", 3);
        states[3] = Houses.state(x);
        x.addDoor(0, 3, 2);
        for (int left = 3; left >= 0; left--) {
            Check.due("undo", x.undo(), left);
            Check.due("state " + left, Houses.state(x), states[left]);
        }
    }

    private static void sixCalls() {
        GhostRooms x = new GhostRooms();
        for (int round = 0; round < 3; round++) {
            for (int i = 1; i <= 9 + round; i++) {
                x.earnCoins(i);
            }
            int coins = x.coins();
            for (int left = 5; left >= 0; left--) {
                coins -= left + 4 + round;
                Check.due("undo", x.undo(), left);
                Check.due("coins", x.coins(), coins);
            }
            Check.refused(x, IllegalStateException.class, "the oldest is forgotten", x::undo);
        }
    }

    private static void refusedCallsAreNotUndone() {
        GhostRooms x = Houses.house(HOUSE);
        x.setChill(4);
        Houses.feed(x, "a");
        Check.thrownBy(() -> x.addRoom(5));
        Check.thrownBy(() -> x.addDoor(0, 1, 1));
        Check.thrownBy(() -> x.setDoorOpen(0, true));
        Check.thrownBy(() -> x.setThermometer(1, true));
        Check.thrownBy(() -> x.setMicrophone(2, true));
        Check.thrownBy(() -> x.warm(0, 6));
        Check.thrownBy(() -> x.passNights(0));
        Check.thrownBy(() -> x.holdSeance(0));
        Check.thrownBy(() -> x.earnCoins(0));
        Check.thrownBy(() -> x.setMode(3));
        Check.thrownBy(() -> x.setChill(0));
        Check.thrownBy(() -> x.setHearingThreshold(10));
        Check.thrownBy(() -> x.setSeancePrice(0));
        Check.thrownBy(() -> x.setRandomState(16));
        Check.thrownBy(x::runScript);
        Check.thrownBy(x::restoreState);
        Check.thrownBy(() -> Houses.read(x, "bad"));
        Check.due("only the successful one", x.undo(), 0);
        Check.due("chill", x.chill(), 1);
        sevenSlots();
    }

    // a refused call must not cost the oldest of six remembered ones
    private static void sevenSlots() {
        GhostRooms x = new GhostRooms();
        for (int i = 1; i <= 6; i++) {
            x.earnCoins(i);
        }
        Check.thrownBy(() -> x.earnCoins(0));
        Check.thrownBy(() -> x.setMode(5));
        for (int left = 5; left >= 0; left--) {
            Check.due("undo", x.undo(), left);
        }
        Check.due("the state before the oldest", x.coins(), 50);
    }

    private static void queriesAreNotUndone() {
        GhostRooms x = Houses.house(HOUSE);
        x.feed(1, 2, 3, 4, 5);
        x.truncate(1);
        Houses.describe(x);
        x.findRoom();
        x.violations();
        x.quietestPath(0, 1);
        x.ghostRoomAfter(3);
        x.possibleRoomsAfter(3);
        x.nightsUntilKnown();
        x.bestThermometerRoom();
        x.calmestMode();
        x.mostImportantDoor();
        x.printReport();
        x.saveState();
        Check.refused(x, IllegalStateException.class, "nothing to undo", x::undo);
    }

    private static void whatUndoKeeps() {
        GhostRooms x = Houses.house(HOUSE);
        Houses.addRoom(x, "d", 3);
        int length = x.printReport();
        String output = Houses.output(x, length);
        Houses.feed(x, "earn;");
        Check.thrownBy(x::runScript);
        x.saveState();
        Houses.feed(x, "hello");
        x.undo();
        Check.due("rooms", x.roomCount(), 3);
        Check.due("the input buffer", x.truncate(5), 5);
        Check.due("the error", x.errorCode() + " " + x.errorOffset(), "1 4");
        Check.due("the output", Houses.output(x, length), output);
        Check.refused(x, IndexOutOfBoundsException.class, "its length", () -> x.outputByte(length));
        x.restoreState();
        Check.due("the saved state", x.roomCount(), 4);
    }

    private static void undoneCallsCountAnew() {
        GhostRooms x = new GhostRooms();
        x.earnCoins(1);
        x.earnCoins(2);
        x.undo();
        x.earnCoins(4);
        Check.due("undo", x.undo(), 1);
        Check.due("coins", x.coins(), 51);
        Check.due("undo", x.undo(), 0);
        Check.due("coins", x.coins(), 50);
        for (int i = 0; i < 10; i++) {
            x.setChill(1 + i % 9);
            x.setMode(i % 3);
            Check.due("undo", x.undo(), Math.min(i + 1, 5));
        }
    }

    private static void savedState() {
        GhostRooms x = Houses.house(HOUSE + "nights 4;");
        Check.refused(x, IllegalStateException.class, "no state is saved", x::restoreState);
        x.holdSeance(1);
        String saved = Houses.state(x);
        Check.due("saveState", x.saveState(), 4);
        Check.due("nothing is changed", Houses.state(x), saved);
        x.passNights(3);
        Houses.addRoom(x, "d", 3);
        x.addDoor(0, 3, 3);
        Check.due("restoreState", x.restoreState(), 4);
        Check.due("state", Houses.state(x), saved);
        x.setMode(2);
        x.passNights(7);
        Check.due("it stays saved", x.restoreState(), 4);
        Check.due("state", Houses.state(x), saved);
        x.passNights(7);
        Check.due("a later state", x.saveState(), 11);
        Houses.read(x, "house;");
        Check.due("replaces the earlier one", x.restoreState(), 11);
        Check.due("rooms", x.roomCount(), 3);
    }

    private static void savedStateIsNoLink() {
        GhostRooms x = Houses.house(HOUSE);
        x.saveState();
        x.restoreState();
        x.warm(0, 2);
        x.restoreState();
        Check.due("changes behind restoreState are not saved", x.coldness(0), 5);
        GhostRooms y = new GhostRooms();
        y.saveState();
        Houses.addRoom(y, "a", 4);
        Check.due("an empty house", y.restoreState(), 0);
        Check.due("rooms", y.roomCount(), 0);
        Check.due("ghost", y.ghostRoom(), GhostRooms.NONE);
    }

    private static void restoredStateEndsUndo() {
        GhostRooms x = Houses.house(HOUSE);
        x.setChill(3);
        x.saveState();
        Check.due("saving keeps undo", x.undo(), 0);
        x.setChill(4);
        Houses.feed(x, "abc");
        Check.thrownBy(x::runScript);
        Houses.feed(x, "abc");
        int length = x.printReport();
        x.restoreState();
        Check.refused(x, IllegalStateException.class, "nothing to undo", x::undo);
        Check.due("chill", x.chill(), 3);
        Check.due("the input buffer stays", x.truncate(3), 3);
        Check.due("the error stays", x.errorCode() + " " + x.errorOffset(), "1 0");
        Check.due("the output stays", x.outputByte(length - 1), 10);
    }
}
