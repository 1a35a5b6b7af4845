import java.nio.charset.StandardCharsets;

/** Feeds texts and describes houses, for the tests. */
final class Houses {
    private Houses() {
    }

    static void feed(GhostRooms x, String text) {
        byte[] bytes = text.getBytes(StandardCharsets.ISO_8859_1);
        int length = x.truncate(0);
        for (int i = 0; i < bytes.length; i += 20) {
            length = x.feed(four(bytes, i), four(bytes, i + 4), four(bytes, i + 8), four(bytes, i + 12),
                    four(bytes, i + 16));
        }
        if (length != bytes.length) {
            x.truncate(bytes.length);
        }
    }

    private static int four(byte[] bytes, int from) {
        int value = 0;
        for (int i = from; i < from + 4; i++) {
            value = value << 8 | (i < bytes.length ? bytes[i] & 255 : 0);
        }
        return value;
    }

    static GhostRooms house(String text) {
        GhostRooms x = new GhostRooms();
        read(x, text);
        return x;
    }

    /** The name of a room of the houses below: a, b, c and so on. */
    static char letter(int room) {
        return (char) ('a' + room);
    }

    /** A description of so many rooms, all as cold, to which more statements can be joined. */
    static String rooms(int count, int coldness) {
        StringBuilder text = new StringBuilder("house;");
        for (int room = 0; room < count; room++) {
            text.append("room ").append(letter(room)).append(' ').append(coldness).append(';');
        }
        return text.toString();
    }

    /** So many statements of doors between rooms of rooms(8, ..): a b, a c, .., b c, .., at most 28. */
    static String doors(int count, int noise) {
        StringBuilder text = new StringBuilder();
        for (int low = 0, door = 0; low < 7; low++) {
            for (int high = low + 1; high < 8 && door < count; high++, door++) {
                text.append("door ").append(letter(low)).append(' ').append(letter(high)).append(' ').append(noise)
                        .append(';');
            }
        }
        return text.toString();
    }

    /** Statements of doors from one room to all others of so many, those to the highest rooms first. */
    static String star(int center, int count, int noise) {
        StringBuilder text = new StringBuilder();
        for (int room = count - 1; room >= 0; room--) {
            if (room != center) {
                text.append("door ").append(letter(center)).append(' ').append(letter(room)).append(' ').append(noise)
                        .append(';');
            }
        }
        return text.toString();
    }

    static String ghost(int room) {
        return "ghost " + letter(room) + ";";
    }

    /** A house in the night with this number; the scripts keep its calls few. */
    static GhostRooms houseInNight(String text, int night) {
        GhostRooms x = house(text);
        int left = night - x.nightNumber();
        for (; left >= 2000; left -= 2000) {
            script(x, "repeat 20(nights 50;nights 50;);");
        }
        for (; left > 0; left -= 50) {
            x.passNights(Math.min(50, left));
        }
        return x;
    }

    static int read(GhostRooms x, String text) {
        feed(x, text);
        return x.readText();
    }

    static int script(GhostRooms x, String text) {
        feed(x, text);
        return x.runScript();
    }

    static int addRoom(GhostRooms x, String name, int coldness) {
        feed(x, name);
        return x.addRoom(coldness);
    }

    static String name(GhostRooms x, int room) {
        StringBuilder name = new StringBuilder();
        for (int value = x.nameByte(room, 0); value != GhostRooms.NONE; value = x.nameByte(room, name.length())) {
            name.append((char) value);
        }
        return name.toString();
    }

    static String output(GhostRooms x, int length) {
        StringBuilder text = new StringBuilder();
        for (int i = 0; i < length; i++) {
            text.append((char) x.outputByte(i));
        }
        return text.toString();
    }

    /** All that the house, the settings, the counters and the error answer; uses no call that changes them. */
    static String describe(GhostRooms x) {
        StringBuilder text = new StringBuilder();
        text.append("error ").append(x.errorCode()).append(' ').append(x.errorOffset()).append('\n');
        text.append(state(x));
        return text.toString();
    }

    static String state(GhostRooms x) {
        StringBuilder text = new StringBuilder();
        text.append("settings ").append(x.mode()).append(' ').append(x.chill()).append(' ')
                .append(x.hearingThreshold()).append(' ').append(x.seancePrice()).append(' ')
                .append(x.randomState()).append(" coins ").append(x.coins()).append(' ').append(x.coinsSpent())
                .append(" night ").append(x.nightNumber()).append(" moves ").append(x.ghostMoves())
                .append(" ghost ").append(x.ghostRoom()).append(" possible ").append(x.possibleRooms()).append('\n');
        for (int room = 0; room < x.roomCount(); room++) {
            text.append(name(x, room)).append(' ').append(x.coldness(room)).append(x.hasThermometer(room) ? " t" : "")
                    .append(x.hasMicrophone(room) ? " m" : "").append(" why ").append(x.exclusionReason(room))
                    .append(' ').append(x.exclusionEvidence(room)).append(' ').append(x.exclusionSource(room))
                    .append('\n');
        }
        for (int door = 0; door < x.doorCount(); door++) {
            text.append(x.lowRoom(door)).append('-').append(x.highRoom(door)).append(' ').append(x.noise(door))
                    .append(x.isOpen(door) ? " open" : " closed").append('\n');
        }
        return text.toString();
    }
}
