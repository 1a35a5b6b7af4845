import java.nio.charset.StandardCharsets;

/** Feeds texts and describes houses, for the tests. */
final class Houses {
    private Houses() {
    }

    static void feed(GhostRooms x, String text) {
        byte[] bytes = text.getBytes(StandardCharsets.ISO_8859_1);
        int length = x.truncate(0);
        for (int i = 0; i < bytes.length; i += 20) {
            length = x.feed(four(bytes, i), four(bytes, i + 4), four(bytes, i + 8), four(bytes, i + 12),
                    four(bytes, i + 16));
        }
        if (length != bytes.length) {
            x.truncate(bytes.length);
        }
    }

    private static int four(byte[] bytes, int from) {
        int value = 0;
        for (int i = from; i < from + 4; i++) {
            value = value << 8 | (i < bytes.length ? bytes[i] & 255 : 0);
        }
        return value;
    }

    static GhostRooms house(String text) {
        GhostRooms x = new GhostRooms();
        read(x, text);
        return x;
    }

    static int read(GhostRooms x, String text) {
        feed(x, text);
        return x.readText();
    }

    static int script(GhostRooms x, String text) {
        feed(x, text);
        return x.runScript();
    }

    static int addRoom(GhostRooms x, String name, int coldness) {
        feed(x, name);
        return x.addRoom(coldness);
    }

    static String name(GhostRooms x, int room) {
        StringBuilder name = new StringBuilder();
        for (int i = 0; x.nameByte(room, i) != GhostRooms.NONE; i++) {
            name.append((char) x.nameByte(room, i));
        }
        return name.toString();
    }

    static String output(GhostRooms x, int length) {
        StringBuilder text = new StringBuilder();
        for (int i = 0; i < length; i++) {
            text.append((char) x.outputByte(i));
        }
        return text.toString();
    }

    /** All that the house, the settings, the counters and the error answer; uses no call that changes them. */
    static String describe(GhostRooms x) {
        StringBuilder text = new StringBuilder();
        text.append("error ").append(x.errorCode()).append(' ').append(x.errorOffset()).append('\n');
        text.append(state(x));
        return text.toString();
    }

    static String state(GhostRooms x) {
        StringBuilder text = new StringBuilder();
        text.append("settings ").append(x.mode()).append(' ').append(x.chill()).append(' ')
                .append(x.hearingThreshold()).append(' ').append(x.seancePrice()).append(' ')
                .append(x.randomState()).append(" coins ").append(x.coins()).append(' ').append(x.coinsSpent())
                .append(" night ").append(x.nightNumber()).append(" moves ").append(x.ghostMoves())
                .append(" ghost ").append(x.ghostRoom()).append(" possible ").append(x.possibleRooms()).append('\n');
        for (int room = 0; room < x.roomCount(); room++) {
            text.append(name(x, room)).append(' ').append(x.coldness(room)).append(x.hasThermometer(room) ? " t" : "")
                    .append(x.hasMicrophone(room) ? " m" : "").append(" why ").append(x.exclusionReason(room))
                    .append(' ').append(x.exclusionEvidence(room)).append(' ').append(x.exclusionSource(room))
                    .append('\n');
        }
        for (int door = 0; door < x.doorCount(); door++) {
            text.append(x.lowRoom(door)).append('-').append(x.highRoom(door)).append(' ').append(x.noise(door))
                    .append(x.isOpen(door) ? " open" : " closed").append('\n');
        }
        return text.toString();
    }
}
