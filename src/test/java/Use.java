/** A short use of GhostRooms; behind each call that prints stands what it prints. */
public final class Use {
    public static void main(String[] args) {
        GhostRooms x = new GhostRooms();

        // rooms are numbered in their order: the hall is 0, the attic 1, the cellar 2
        feed(x, "house; room hall 5 thermo; room attic 3; room cellar 9; door hall attic 4; door attic cellar 7;");
        System.out.println(x.readText()); // = 3 rooms

        // the ghost starts in room 0 and goes to the neighbor with the smallest coldness
        System.out.println(x.ghostRoomAfter(1)); // = 1 is predicted
        System.out.println(x.passNights(1)); // = 2 rooms are possible
        System.out.println(x.possibleRooms()); // = 3 is the set of rooms 0 and 1
        System.out.println(x.exclusionReason(2)); // = 3 says that a thermometer excludes the cellar
        System.out.println(x.exclusionEvidence(2)); // = 0 is the room of that thermometer
        System.out.println(x.ghostMoves()); // = 1 night with a move

        // a seance asks for a set of rooms and costs coins
        System.out.println(x.holdSeance(0b010)); // = true
        System.out.println(x.possibleRooms()); // = 2 is the set of room 1
        System.out.println(x.coins()); // = 48 of 50 are left
        System.out.println(x.undo()); // = 1 call can still be undone, the night
        System.out.println(x.coins()); // = 50 again

        // a script runs many commands in one call that can be undone
        feed(x, "repeat 2 (earn 5; nights 1;); thermo attic on;");
        System.out.println(x.runScript()); // = 5 commands were executed
        System.out.println(x.coins()); // = 60

        // a call that can't be answered throws, and changes nothing
        feed(x, "ask kitchen;");
        try {
            x.runScript();
        } catch (IllegalArgumentException e) {
            System.out.println(x.errorCode()); // = 4 says that no room has this name
            System.out.println(x.errorOffset()); // = 4 is where the name begins
        }

        // a report shows the rooms, the coldest first: ? where the ghost can be, ! where it is
        int length = x.printReport();
        for (int i = 0; i < length; i++) {
            System.out.print((char) x.outputByte(i));
        }
        // = cellar 9?
        // = hall 6t?
        // = attic 5t?!
    }

    /** Replaces the input buffer by a text of at most 600 bytes. */
    private static void feed(GhostRooms x, String text) {
        x.truncate(0);
        for (int i = 0; i < text.length(); i += 20) {
            x.feed(four(text, i), four(text, i + 4), four(text, i + 8), four(text, i + 12), four(text, i + 16));
        }
        x.truncate(text.length());
    }

    private static int four(String text, int from) {
        int value = 0;
        for (int i = from; i < from + 4; i++) {
            value = value << 8 | (i < text.length() ? text.charAt(i) : ' ');
        }
        return value;
    }
}
