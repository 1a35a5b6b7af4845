import java.nio.charset.StandardCharsets;

/** Feeds texts and describes houses, for the tests. */
final class Houses {
    private Houses() {
    }

    static void feed(GhostRooms x, String text) {
        byte[] bytes = text.getBytes(StandardCharsets.ISO_8859_1);
        int length = x.truncate(0);
        for (int i = 0; i < bytes.length; i += 20) {
            length = x.feed(four(bytes, i), four(bytes, i + 4), four(bytes, i + 8), four(bytes, i + 12),
                    four(bytes, i + 16));
        }
        if (length != bytes.length) {
            x.truncate(bytes.length);
        }
    }

    private static int four(byte[] bytes, int from) {
        int value = 0;
        for (int i = from; i < from + 4; i++) {
            value = value << 8 | (i < bytes.length ? bytes[i] & 255 : 0);
        }
        return value;
    }

    static GhostRooms house(String text) {
        GhostRooms x = new GhostRooms();
        read(x, text);
        return x;
    }

    /** The name of a room of the houses below: a, b, c and so on. */
    static char letter(int room) {
        return (char) ('a' + room);
    }

    /** A description of so many rooms, all as cold, to which more statements can be joined. */
    static String rooms(int count, int coldness) {
        StringBuilder text = new StringBuilder("house;");
        for (int room = 0; room < count; room++) {
            text.append("room ").append(letter(room)).append(' ').append(coldness).append(';');
        }
        return text.toString();
    }

    /** So many statements of doors between rooms of rooms(8, ..): a b, a c, .., b c, .., at most 28. */
    static String doors(int count, int noise) {
        StringBuilder text = new StringBuilder();
        for (int low = 0, door = 0; low < 7; low++) {
            for (int high = low + 1; high < 8 && door < count; high++, door++) {
                text.append("door ").append(letter(low)).append(' ').append(letter(high)).append(' ').append(noise)
                        .append(';');
            }
        }
        return text.toString();
    }

    /** Statements of doors from one room to all others of so many, those to the highest rooms first. */
    static String star(int center, int count, int noise) {
        StringBuilder text = new StringBuilder();
        for (int room = count - 1; room >= 0; room--) {
            if (room != center) {
                text.append("door ").append(letter(center)).append(' ').append(letter(room)).append(' ').append(noise)
                        .append(';');
            }
        }
        return text.toString();
    }

    static String ghost(int room) {
        return "ghost " + letter(room) + ";";
    }

    /** Some small houses of all kinds; the same in every run. */
    static GhostRooms some(int number) {
        StringBuilder text = new StringBuilder("house;");
        int count = 2 + number % 5;
        for (int room = 0; room < count; room++) {
            int dice = number * 7 + room * 11;
            text.append("room ").append(letter(room)).append(' ').append(dice % 13 == 0 ? 99 : dice % 17)
                    .append(dice % 3 == 0 ? " thermo" : "").append(dice % 4 == 0 ? " micro" : "").append(';');
        }
        text.append(ghost(number % count)).append("mode ").append(number % 3)
                .append(";chill ").append(1 + number % 9).append(";random ").append(number % 16).append(';');
        GhostRooms x = house(text.toString());
        for (int door = 0; door < count + 2; door++) {
            int dice = number * 5 + door * 3;
            // one from a room to itself, or a second one between two rooms, is refused and left out
            Check.outcome(() -> x.addDoor(dice % count, dice / 3 % count, dice % 10));
        }
        for (int door = number % 4; door < x.doorCount(); door += 4) {
            x.setDoorOpen(door, false);
        }
        return x;
    }

    /** A house in the night with this number; the scripts keep its calls few. */
    static GhostRooms houseInNight(String text, int night) {
        GhostRooms x = house(text);
        int left = night - x.nightNumber();
        for (; left >= 2000; left -= 2000) {
            script(x, "repeat 20(nights 50;nights 50;);");
        }
        for (; left > 0; left -= 50) {
            x.passNights(Math.min(50, left));
        }
        return x;
    }

    static int read(GhostRooms x, String text) {
        feed(x, text);
        return x.readText();
    }

    static int script(GhostRooms x, String text) {
        feed(x, text);
        return x.runScript();
    }

    static int addRoom(GhostRooms x, String name, int coldness) {
        feed(x, name);
        return x.addRoom(coldness);
    }

    static String name(GhostRooms x, int room) {
        StringBuilder name = new StringBuilder();
        for (int value = x.nameByte(room, 0); value != GhostRooms.NONE; value = x.nameByte(room, name.length())) {
            name.append((char) value);
        }
        return name.toString();
    }

    static String output(GhostRooms x, int length) {
        StringBuilder text = new StringBuilder();
        for (int i = 0; i < length; i++) {
            text.append((char) x.outputByte(i));
        }
        return text.toString();
    }

    /** All that the house, the settings, the counters and the error answer; uses no call that changes them. */
    static String describe(GhostRooms x) {
        StringBuilder text = new StringBuilder();
        text.append("error ").append(x.errorCode()).append(' ').append(x.errorOffset()).append('\n');
        text.append(state(x));
        return text.toString();
    }

    /** All that a house of a few rooms answers; it prints a report. */
    static String everything(GhostRooms x) {
        StringBuilder text = new StringBuilder(state(x));
        int rooms = x.roomCount();
        for (int room = 0; room < rooms; room++) {
            text.append("rank ").append(x.roomByColdness(room)).append(" neighbors ").append(x.neighbors(room));
            for (int other = 0; other < rooms; other++) {
                text.append(' ').append(x.doorBetween(room, other)).append('/').append(x.quietestPath(room, other));
            }
            text.append('\n');
        }
        for (int door = 0; door < x.doorCount(); door++) {
            text.append(x.isMonitored(door) ? "monitored " : "silent ");
        }
        text.append(x.roomByColdness(rooms)).append(' ').append(x.violations()).append(' ').append(x.meanColdness())
                .append(' ').append(x.possibleFraction()).append('\n').append(x.ghostRoomAfter(9)).append(' ')
                .append(x.possibleRoomsAfter(9)).append(' ').append(x.nightsUntilKnown()).append(' ')
                .append(x.bestThermometerRoom()).append(' ').append(x.calmestMode()).append(' ')
                .append(x.mostImportantDoor()).append('\n').append(output(x, x.printReport()));
        return text.toString();
    }

    /** What changes most, in few calls, as an object has only 512. */
    static String brief(GhostRooms x) {
        return x.roomCount() + " rooms, " + x.doorCount() + " doors, ghost " + x.ghostRoom() + ", possible "
                + x.possibleRooms() + ", night " + x.nightNumber() + ", coins " + x.coins();
    }

    static String state(GhostRooms x) {
        StringBuilder text = new StringBuilder();
        text.append("settings ").append(x.mode()).append(' ').append(x.chill()).append(' ')
                .append(x.hearingThreshold()).append(' ').append(x.seancePrice()).append(' ')
                .append(x.randomState()).append(" coins ").append(x.coins()).append(' ').append(x.coinsSpent())
                .append(" night ").append(x.nightNumber()).append(" moves ").append(x.ghostMoves())
                .append(" ghost ").append(x.ghostRoom()).append(" possible ").append(x.possibleRooms()).append('\n');
        for (int room = 0; room < x.roomCount(); room++) {
            text.append(name(x, room)).append(' ').append(x.coldness(room)).append(x.hasThermometer(room) ? " t" : "")
                    .append(x.hasMicrophone(room) ? " m" : "").append(" why ").append(x.exclusionReason(room))
                    .append(' ').append(x.exclusionEvidence(room)).append(' ').append(x.exclusionSource(room))
                    .append('\n');
        }
        for (int door = 0; door < x.doorCount(); door++) {
            text.append(x.lowRoom(door)).append('-').append(x.highRoom(door)).append(' ').append(x.noise(door))
                    .append(x.isOpen(door) ? " open" : " closed").append('\n');
        }
        return text.toString();
    }
}
