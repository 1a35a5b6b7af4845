import java.util.List;

/**
 * A call that is refused, beside an object with the same past that never saw it: behind the call both must answer
 * alike, whatever is asked, undone, restored, fed or read. Looking changes an object, so each look has its own two.
 */
final class Twins {
    interface Step {
        void on(GhostRooms x);

        default Step then(Step next) {
            return x -> {
                on(x);
                next.on(x);
            };
        }
    }

    private interface Look {
        String at(GhostRooms x);
    }

    /** Six calls to undo and older ones forgotten, a saved state, an output, an error, and a text in the input. */
    static final Step LIVELY = x -> {
        Houses.read(x, "house;room a 5 thermo;room b 9;room c 9 micro;door a b 3;door b c 7 closed;coins 60;nights 2;");
        x.setChill(3);
        x.earnCoins(7);
        x.setThermometer(1, true);
        x.passNights(1);
        x.saveState();
        x.setDoorOpen(1, true);
        x.warm(2, 4);
        x.printReport();
        Houses.feed(x, "earn 5;earn;");
        Check.thrownBy(x::runScript);
        x.passNights(2);
        x.setMode(2);
        x.setRandomState(4);
        Houses.feed(x, "house;room k 7 thermo;room b 9;nights 1;");
    };

    private static final List<Look> LOOKS = List.of(Houses::state, Twins::output, Twins::undone, Twins::restored,
            Twins::inputLength, x -> parsed(x, x::readText), x -> parsed(x, x::runScript), Twins::added);

    private Twins() {
    }

    /** The call must throw this exception and change nothing at all. */
    static void refuses(Class<? extends RuntimeException> kind, String what, Step past, Step call) {
        compare(kind, what, past, call, x -> { });
        GhostRooms x = new GhostRooms();
        past.on(x);
        String error = x.errorCode() + " " + x.errorOffset();
        Check.thrownBy(() -> call.on(x));
        Check.due(what + ": the error behind it", x.errorCode() + " " + x.errorOffset(), error);
    }

    /** Reading this text must throw, empty the input and set this error, and change nothing else. */
    static void refusesText(String what, Step past, String text, Step call, int code, int offset) {
        Step fed = past.then(x -> Houses.feed(x, text));
        compare(Check.ARGUMENT, what, fed, call, x -> x.truncate(0));
        GhostRooms x = new GhostRooms();
        fed.on(x);
        Check.thrownBy(() -> call.on(x));
        Check.due(what + ": the error", x.errorCode() + " " + x.errorOffset(), code + " " + offset);
    }

    /** Both twins have the past; the first gets the call, the other what the call is still let to change. */
    private static void compare(Class<? extends RuntimeException> kind, String what, Step past, Step call, Step but) {
        for (Look look : LOOKS) {
            GhostRooms touched = new GhostRooms();
            past.on(touched);
            GhostRooms spared = new GhostRooms();
            past.on(spared);
            but.on(spared);
            Check.throwsThe(kind, what, () -> call.on(touched));
            Check.due(what + ": what is behind it", look.at(touched), look.at(spared));
        }
    }

    static String output(GhostRooms x) {
        StringBuilder text = new StringBuilder();
        for (int i = 0; Check.thrownBy(bytesOf(x, i)).equals("nothing"); i++) {
            text.append((char) x.outputByte(i));
        }
        return text.toString();
    }

    private static Check.Call bytesOf(GhostRooms x, int index) {
        return () -> x.outputByte(index);
    }

    /** The states behind each undo, and how many there are. */
    static String undone(GhostRooms x) {
        StringBuilder text = new StringBuilder();
        for (Object left = Check.outcome(x::undo); left instanceof Integer; left = Check.outcome(x::undo)) {
            text.append("undone, left ").append(left).append('\n').append(Houses.state(x));
        }
        return text.toString();
    }

    static String restored(GhostRooms x) {
        return Check.outcome(x::restoreState) + "\n" + Houses.state(x) + undone(x);
    }

    /** Found without many calls: a feed answers the length, and only near 600 it has to be tried. */
    static String inputLength(GhostRooms x) {
        Object fed = Check.outcome(() -> x.feed(0, 0, 0, 0, 0));
        int length = fed instanceof Integer ? (Integer) fed - 20 : 600;
        while (!(Check.outcome(truncation(x, length)) instanceof Integer)) {
            length--;
        }
        return "length " + length;
    }

    private static Check.Answer truncation(GhostRooms x, int length) {
        return () -> x.truncate(length);
    }

    private static String parsed(GhostRooms x, Check.Answer parse) {
        return Check.outcome(parse) + " " + Houses.describe(x);
    }

    private static String added(GhostRooms x) {
        return x.findRoom() + " " + Check.outcome(() -> x.addRoom(8)) + " " + Houses.state(x);
    }
}
