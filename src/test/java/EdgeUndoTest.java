import java.util.LinkedHashMap;
import java.util.Map;

/** The edges of term 7 and of promises 61, 64 and 65: undo and the saved state. */
public final class EdgeUndoTest {
    private static final String HOUSE = "house;room a 5;room b 9 thermo;room c 9 micro;door a b 3;door b c 7 closed;";

    public static void main(String[] args) {
        everyUndoableMethod();
        sixCalls();
        latestFirst();
        callsBehindUndo();
        nothingIsLeftOfUndoneCalls();
        nothingIsLeftOfTheHouseBefore();
        refusedCallsBetween();
        nothingToUndo();
        sameValueAgain();
        whatUndoKeeps();
        otherCallsAreNotUndone();
        descriptionEndsUndo();
        restoredStateEndsUndo();
        refusedRestore();
        savedNight();
        savedStateIsReplaced();
        savedStateStays();
        savedEmptyHouse();
        Check.end();
    }

    /** A call of every method that the document describes as undoable, on HOUSE. */
    private static Map<String, Twins.Step> undoable() {
        Map<String, Twins.Step> calls = new LinkedHashMap<>();
        calls.put("runScript", x -> Houses.script(x, "nights 2;earn 3;mode 2;"));
        calls.put("addRoom", x -> Houses.addRoom(x, "d", 99));
        calls.put("addDoor", x -> x.addDoor(2, 0, 9));
        calls.put("setDoorOpen, closing", x -> x.setDoorOpen(0, false));
        calls.put("setDoorOpen, opening", x -> x.setDoorOpen(1, true));
        calls.put("setThermometer, installing", x -> x.setThermometer(0, true));
        calls.put("setThermometer, removing", x -> x.setThermometer(1, false));
        calls.put("setMicrophone, installing", x -> x.setMicrophone(0, true));
        calls.put("setMicrophone, removing", x -> x.setMicrophone(2, false));
        calls.put("warm", x -> x.warm(0, 5));
        calls.put("passNights", x -> x.passNights(50));
        calls.put("holdSeance, positive", x -> x.holdSeance(1));
        calls.put("holdSeance, negative", x -> x.holdSeance(6));
        calls.put("earnCoins", x -> x.earnCoins(99));
        calls.put("setMode", x -> x.setMode(1));
        calls.put("setChill", x -> x.setChill(9));
        calls.put("setHearingThreshold", x -> x.setHearingThreshold(0));
        calls.put("setSeancePrice", x -> x.setSeancePrice(9));
        calls.put("setRandomState", x -> x.setRandomState(0));
        return calls;
    }

    // Rest: "changes, all undoable"
    // Term 7: "Each successful call of a method that is described as undoable can be undone, the latest first."
    // Promise 5: "Undoable."
    // Promise 47: "Undoable."
    // Promise 48: "Undoable."
    // Promise 49: "Undoable."
    // Promise 50: "Undoable."
    // Promise 51: "Undoable."
    // Promise 52: "Undoable."
    // Promise 53: "Undoable."
    // Promise 54: "Undoable."
    // Promise 55: "Undoable."
    // Promise 56: "Undoable."
    // Promise 57: "Undoable."
    // Promise 58: "Undoable."
    // Promise 59: "Undoable."
    // Promise 60: "Undoable."
    private static void everyUndoableMethod() {
        undoable().forEach((what, call) -> {
            GhostRooms x = Houses.house(HOUSE);
            String before = Houses.state(x);
            call.on(x);
            Check.no(what + " changes the state", Houses.state(x).equals(before));
            Check.due("undo " + what, x.undo(), 0);
            Check.due("the state before " + what, Houses.state(x), before);
            Check.throwsThe(Check.STATE, "nothing else behind " + what, x::undo);
            call.on(x);
            Check.due("undo " + what + " once more", x.undo(), 0);
            Check.due("the state before " + what, Houses.state(x), before);
        });
    }

    // Term 7: "At most 6 such calls are remembered; a seventh one makes the oldest of them be forgotten."
    // Promise 61: "Returns the number of calls that can still be undone."
    private static void sixCalls() {
        for (int calls = 0; calls <= 20; calls++) {
            GhostRooms x = new GhostRooms();
            for (int i = 0; i < calls; i++) {
                x.earnCoins(1);
            }
            for (int left = Math.min(calls, 6) - 1; left >= 0; left--) {
                Check.due("undo of " + calls, x.undo(), left);
            }
            Check.throwsThe(Check.STATE, "one more of " + calls, x::undo);
            Check.due("coins behind " + calls, x.coins(), 50 + Math.max(0, calls - 6));
        }
    }

    // Term 7: "can be undone, the latest first"
    private static void latestFirst() {
        Twins.Step[] calls = undoable().values().toArray(new Twins.Step[0]);
        for (int first = 0; first + 6 < calls.length; first++) {
            GhostRooms x = Houses.house(HOUSE);
            String[] states = new String[6];
            int done = 0;
            // some refuse what another one has done
            for (int i = first; done < 6 && i < calls.length; i++) {
                String before = settingsAndKit(x);
                if (Check.thrownBy(step(calls[i], x)).equals("nothing")) {
                    states[done] = before;
                    done++;
                }
            }
            while (done > 0) {
                done--;
                Check.due("undo", x.undo(), done);
                Check.due("the state before call " + (first + done), settingsAndKit(x), states[done]);
            }
        }
    }

    /** All that the calls of undoable() change, in few calls, as an object has only 512. */
    private static String settingsAndKit(GhostRooms x) {
        StringBuilder text = new StringBuilder(Houses.brief(x));
        text.append(x.mode()).append(x.chill()).append(x.hearingThreshold()).append(x.seancePrice()).append(' ')
                .append(x.randomState()).append(' ').append(x.coldness(0)).append(x.isOpen(0)).append(x.isOpen(1));
        for (int room = 0; room < 3; room++) {
            text.append(x.hasThermometer(room)).append(x.hasMicrophone(room));
        }
        return text.toString();
    }

    private static Check.Call step(Twins.Step step, GhostRooms x) {
        return () -> step.on(x);
    }

    // Promise 61: "Undoes the latest undoable call that has not been undone."
    private static void callsBehindUndo() {
        GhostRooms x = new GhostRooms();
        for (int i = 0; i < 6; i++) {
            x.earnCoins(1);
        }
        x.undo();
        x.undo();
        x.earnCoins(10);
        Check.due("four and one", x.undo(), 4);
        Check.due("coins", x.coins(), 54);
        x.earnCoins(20);
        x.earnCoins(30);
        x.earnCoins(40);
        Check.due("the seventh forgets the oldest", x.undo() + " " + x.coins(), "5 104");
        Check.due("then", x.undo() + " " + x.coins(), "4 74");
        Check.due("then", x.undo() + " " + x.coins(), "3 54");
        Check.due("then", x.undo() + " " + x.coins(), "2 53");
        Check.due("then", x.undo() + " " + x.coins(), "1 52");
        Check.due("the oldest remembered", x.undo() + " " + x.coins(), "0 51");
        Check.throwsThe(Check.STATE, "the forgotten one", x::undo);
    }

    // Term 7: "undo() restores everything except the input buffer, the error, the output and the saved state."
    private static void nothingIsLeftOfUndoneCalls() {
        GhostRooms fresh = Houses.house(HOUSE);
        GhostRooms used = Houses.house(HOUSE);
        Houses.addRoom(used, "d", 99);
        used.setThermometer(3, true);
        used.setMicrophone(3, true);
        used.addDoor(3, 0, 0);
        used.passNights(7);
        used.saveState();
        for (int left = 4; left >= 0; left--) {
            used.undo();
        }
        Check.due("undone", Houses.everything(used), Houses.everything(fresh));
        Check.due("the room again, bare", Houses.addRoom(used, "e", 1), 3);
        Check.due("its kit", used.hasThermometer(3) + " " + used.hasMicrophone(3), "false false");
        Check.due("the door again", used.addDoor(3, 1, 1) + " " + used.noise(2), "2 1");
        used.restoreState();
        Check.due("the saved house", used.roomCount() + " " + used.coldness(3) + " " + used.noise(2), "4 99 0");
    }

    // Promise 65: "Restores the saved state, which stays saved."
    private static void nothingIsLeftOfTheHouseBefore() {
        GhostRooms fresh = Houses.house(HOUSE);
        GhostRooms used = Houses.house(HOUSE);
        used.saveState();
        Houses.read(used, Houses.rooms(12, 99).replace("99;", "99thermo micro;") + Houses.doors(24, 9) + "nights 9;");
        used.restoreState();
        Check.due("restored", Houses.everything(used), Houses.everything(fresh));
        Check.due("open doors", used.setDoorOpen(0, false), 0);
        Check.due("thermometers", used.setThermometer(0, true), 2);
        Check.due("microphones", used.setMicrophone(0, true), 2);
    }

    // Term 7: "Each successful call of a method that is described as undoable can be undone"
    private static void refusedCallsBetween() {
        GhostRooms x = new GhostRooms();
        for (int i = 0; i < 6; i++) {
            x.earnCoins(1);
            for (int j = 0; j < 3; j++) {
                Check.thrownBy(() -> x.earnCoins(0));
                Check.thrownBy(() -> x.setMode(3));
                Check.thrownBy(() -> x.passNights(1));
                Check.thrownBy(() -> x.holdSeance(1));
            }
        }
        for (int left = 5; left >= 0; left--) {
            Check.due("only the successful ones", x.undo() + " " + x.coins(), left + " " + (50 + left));
        }
        Check.throwsThe(Check.STATE, "no more", x::undo);
    }

    // Promise 61: "Throws `IllegalStateException` if there is none to undo"
    private static void nothingToUndo() {
        GhostRooms x = new GhostRooms();
        Check.throwsThe(Check.STATE, "a new object", x::undo);
        Check.throwsThe(Check.STATE, "once more", x::undo);
        x.setChill(2);
        Check.due("one call", x.undo(), 0);
        Check.throwsThe(Check.STATE, "undone already", x::undo);
        Check.due("chill", x.chill(), 1);
        x.setChill(3);
        Check.due("one call behind refused undos", x.undo(), 0);
        Check.due("chill", x.chill(), 1);
    }

    // Term 7: "Each successful call of a method that is described as undoable can be undone"
    private static void sameValueAgain() {
        GhostRooms x = new GhostRooms();
        x.setMode(0);
        x.setChill(1);
        x.setHearingThreshold(5);
        x.setSeancePrice(2);
        x.setRandomState(7);
        x.runScript();
        for (int left = 5; left >= 0; left--) {
            Check.due("calls that set what is set, and an empty script", x.undo(), left);
        }
    }

    // Term 7: "undo() restores everything except the input buffer, the error, the output and the saved state."
    private static void whatUndoKeeps() {
        GhostRooms x = Houses.house(HOUSE);
        Houses.addRoom(x, "d", 9);
        Houses.feed(x, "d");
        x.saveState();
        int length = x.printReport();
        String output = Houses.output(x, length);
        x.undo();
        Check.due("the input buffer stays, its room is gone", x.findRoom(), GhostRooms.NONE);
        Check.due("the buffer's length", x.truncate(1), 1);
        Check.due("it is a new name again", x.addRoom(7), 3);
        Check.due("the output", Houses.output(x, length), output);
        Check.throwsThe(Check.INDEX, "the byte behind it", () -> x.outputByte(length));
        Houses.feed(x, "earn 1;earn x;");
        Check.thrownBy(x::runScript);
        x.undo();
        Check.due("the error", x.errorCode() + " " + x.errorOffset(), "1 12");
        Check.due("the saved state", x.restoreState() + " " + x.roomCount() + " " + x.coldness(3), "0 4 9");
        GhostRooms y = Houses.house(HOUSE);
        Houses.script(y, "earn 1;");
        y.undo();
        Check.throwsThe(Check.ARGUMENT, "undo does not bring back the text", () -> y.truncate(1));
    }

    // Term 7: "a method that is described as undoable"
    private static void otherCallsAreNotUndone() {
        GhostRooms x = Houses.house(HOUSE);
        x.setChill(2);
        x.feed(1, 2, 3, 4, 5);
        x.truncate(0);
        Houses.describe(x);
        x.findRoom();
        x.violations();
        x.quietestPath(0, 1);
        x.meanColdness();
        x.possibleFraction();
        x.ghostRoomAfter(50);
        x.possibleRoomsAfter(50);
        x.nightsUntilKnown();
        x.bestThermometerRoom();
        x.calmestMode();
        x.mostImportantDoor();
        x.printReport();
        x.saveState();
        Check.due("only the change", x.undo() + " " + x.chill(), "0 1");
    }

    // Promise 4: "Afterwards nothing can be undone."
    private static void descriptionEndsUndo() {
        GhostRooms x = new GhostRooms();
        Twins.LIVELY.on(x);
        Check.due("a description", x.readText(), 2);
        Check.throwsThe(Check.STATE, "nothing to undo", x::undo);
        for (int i = 0; i < 8; i++) {
            x.setChill(1 + i);
        }
        Check.due("six later calls", x.undo(), 5);
        Houses.read(x, "house;");
        Check.throwsThe(Check.STATE, "nothing to undo", x::undo);
    }

    // Promise 65: "Restores the saved state, which stays saved. Afterwards nothing can be undone."
    private static void restoredStateEndsUndo() {
        GhostRooms x = new GhostRooms();
        Twins.LIVELY.on(x);
        Check.due("the night of the saved state", x.restoreState(), 3);
        Check.throwsThe(Check.STATE, "nothing to undo", x::undo);
        String saved = Houses.state(x);
        x.passNights(50);
        x.addDoor(0, 2, 1);
        Check.due("calls behind it", x.undo(), 1);
        Check.due("again", x.restoreState(), 3);
        Check.due("the saved state", Houses.state(x), saved);
        Check.throwsThe(Check.STATE, "nothing to undo", x::undo);
        Check.due("at once again", x.restoreState(), 3);
    }

    // Promise 65: "Throws `IllegalStateException` if no state is saved"
    private static void refusedRestore() {
        GhostRooms x = Houses.house(HOUSE);
        x.setChill(2);
        Check.throwsThe(Check.STATE, "nothing saved", x::restoreState);
        Check.due("the call before can be undone", x.undo() + " " + x.chill(), "0 1");
        Houses.read(x, "house;");
        Check.throwsThe(Check.STATE, "a description saves nothing", x::restoreState);
        x.saveState();
        Check.due("saved now", x.restoreState(), 0);
    }

    // Promise 64: "Returns the night number."
    // Promise 65: "Returns the night number afterwards."
    private static void savedNight() {
        GhostRooms x = Houses.houseInNight(HOUSE, 9999);
        Check.due("night 9999", x.saveState(), 9999);
        Houses.read(x, HOUSE);
        Check.due("night 0", x.nightNumber(), 0);
        Check.due("night 9999 again", x.restoreState() + " " + x.nightNumber(), "9999 9999");
        Check.throwsThe(Check.STATE, "no night behind it", () -> x.passNights(1));
    }

    // Promise 64: "Saves the house, the settings and the counters, replacing an earlier saved state."
    private static void savedStateIsReplaced() {
        GhostRooms x = Houses.house(HOUSE);
        x.saveState();
        x.passNights(2);
        x.holdSeance(1);
        Houses.addRoom(x, "d", 3);
        x.setMode(2);
        String later = Houses.state(x);
        Check.due("the later state", x.saveState(), 2);
        Houses.read(x, "house;");
        x.restoreState();
        Check.due("the later one is restored, with reasons and counters", Houses.state(x), later);
        Houses.read(x, "house;room z 1;");
        x.saveState();
        x.passNights(1);
        x.restoreState();
        Check.due("a smaller house", Houses.state(x),
                "settings 0 1 5 2 7 coins 50 0 night 0 moves 0 ghost 0 possible 1\nz 1 why 0 -1 -1\n");
    }

    // Promise 65: "Restores the saved state, which stays saved."
    private static void savedStateStays() {
        String saved = Houses.state(Houses.house(HOUSE));
        undoable().forEach((what, call) -> {
            GhostRooms x = Houses.house(HOUSE);
            x.saveState();
            for (int round = 0; round < 2; round++) {
                call.on(x);
                x.restoreState();
                Check.due("the saved state behind " + what, Houses.state(x), saved);
            }
        });
        GhostRooms x = Houses.house(HOUSE);
        x.saveState();
        x.setChill(7);
        x.undo();
        Houses.read(x, "house;");
        x.restoreState();
        Check.due("the saved state behind a description", Houses.state(x), saved);
    }

    // Promise 64: "Saves the house, the settings and the counters"
    private static void savedEmptyHouse() {
        GhostRooms x = new GhostRooms();
        x.setRandomState(15);
        Check.due("an empty house is saved", x.saveState(), 0);
        Houses.addRoom(x, "a", 5);
        x.passNights(1);
        Check.due("and restored", x.restoreState(), 0);
        Check.due("the house", Houses.state(x),
                "settings 0 1 5 2 15 coins 50 0 night 0 moves 0 ghost -1 possible 0\n");
    }
}
