/** Promises 1, 2, 3, 6, 7 and 22: the new object, the input buffer and the error. */
public final class InputTest {
    private static final int NONE = GhostRooms.NONE;

    public static void main(String[] args) {
        newObject();
        feed();
        truncate();
        byteOrder();
        errors();
        findRoom();
        Check.end();
    }

    private static void newObject() {
        GhostRooms x = new GhostRooms();
        Check.due("NONE", GhostRooms.NONE, -1);
        Check.due("a new object", Houses.describe(x),
                "error 0 -1\nsettings 0 1 5 2 7 coins 50 0 night 0 moves 0 ghost -1 possible 0\n");
        Check.due("rooms", x.roomCount(), 0);
        Check.due("doors", x.doorCount(), 0);
        Check.refused(x, IllegalArgumentException.class, "a new input buffer is empty", () -> x.truncate(1));
        Check.refused(x, IndexOutOfBoundsException.class, "new output is empty", () -> x.outputByte(0));
        Check.refused(x, IllegalStateException.class, "no saved state", x::restoreState);
        Check.refused(x, IllegalStateException.class, "nothing to undo", x::undo);
    }

    private static void feed() {
        GhostRooms x = new GhostRooms();
        for (int i = 1; i <= 30; i++) {
            Check.due("feed " + i, x.feed(0, 0, 0, 0, 0), 20 * i);
        }
        Check.refused(x, IllegalStateException.class, "feed beyond 600", () -> x.feed(1, 2, 3, 4, 5));
        Check.due("the length stays", x.truncate(600), 600);
        x.truncate(581);
        Check.refused(x, IllegalStateException.class, "feed beyond 600 by one", () -> x.feed(1, 2, 3, 4, 5));
        x.truncate(580);
        Check.due("feed up to 600", x.feed(1, 2, 3, 4, 5), 600);
    }

    private static void truncate() {
        GhostRooms x = new GhostRooms();
        x.feed(0x61626364, 0, 0, 0, 0);
        Check.refused(x, IllegalArgumentException.class, "truncate(21)", () -> x.truncate(21));
        Check.refused(x, IllegalArgumentException.class, "truncate(-1)", () -> x.truncate(-1));
        Check.refused(x, IllegalArgumentException.class, "truncate(least)", () -> x.truncate(Integer.MIN_VALUE));
        Check.refused(x, IllegalArgumentException.class, "truncate(most)", () -> x.truncate(Integer.MAX_VALUE));
        Check.due("truncate(20)", x.truncate(20), 20);
        Check.due("truncate(3)", x.truncate(3), 3);
        Check.refused(x, IllegalArgumentException.class, "truncate(4)", () -> x.truncate(4));
        Check.due("the rest is gone, the front stays", x.feed(0x64656667, 0, 0, 0, 0), 23);
        x.truncate(7);
        x.addRoom(1);
        Check.due("the name", Houses.name(x, 0), "abcdefg");
    }

    private static void byteOrder() {
        GhostRooms x = new GhostRooms();
        x.feed(0x686f7573, 0x653b726f, 0x6f6d2061, 0x62636465, 0x66676839);
        x.feed(0x393b200a, 0x0a202020, 0x20202020, 0x20202020, 0x20202020);
        Check.due("a text in 40 bytes", x.readText(), 1);
        Check.due("its name", Houses.name(x, 0), "abcdefgh");
        Check.due("its coldness", x.coldness(0), 99);
        Check.refused(x, IllegalArgumentException.class, "the input buffer is emptied", () -> x.truncate(1));
    }

    private static void errors() {
        GhostRooms x = new GhostRooms();
        Houses.feed(x, "house;mode 3;");
        Check.due("an error in a description", Check.thrownBy(x::readText), "IllegalArgumentException");
        Check.due("its code", x.errorCode(), 2);
        Check.due("its offset", x.errorOffset(), 11);
        x.truncate(0);
        Check.due("an empty script", x.runScript(), 0);
        Check.due("no code", x.errorCode(), 0);
        Check.due("no offset", x.errorOffset(), NONE);
        Houses.feed(x, "earn 1;earn;");
        Check.due("an error in a script", Check.thrownBy(x::runScript), "IllegalArgumentException");
        Check.due("its code", x.errorCode(), 1);
        Check.due("its offset", x.errorOffset(), 11);
        x.setChill(4);
        x.undo();
        Check.due("other calls keep the code", x.errorCode(), 1);
        Check.due("other calls keep the offset", x.errorOffset(), 11);
        Houses.read(x, "house;");
        Check.due("no code after a description", x.errorCode(), 0);
        Check.due("no offset after a description", x.errorOffset(), NONE);
    }

    private static void findRoom() {
        GhostRooms x = Houses.house("house;room a 1;room ab 2;room abcdefgh 3;");
        Check.due("an empty buffer names no room", x.findRoom(), NONE);
        String[] texts = {"a", "ab", "abcdefgh", "b", "abc", "abcdefghi", "a ", " a", "A", "a\0", "\0a", "\0", "1"};
        int[] rooms = {0, 1, 2, NONE, NONE, NONE, NONE, NONE, NONE, NONE, NONE, NONE, NONE};
        for (int i = 0; i < texts.length; i++) {
            Houses.feed(x, texts[i]);
            Check.due("findRoom of '" + texts[i] + "'", x.findRoom(), rooms[i]);
            Check.due("the buffer is kept", x.truncate(texts[i].length()), texts[i].length());
        }
        Houses.feed(x, "aabcdefgh");
        Check.due("nine letters, the last eight a name", x.findRoom(), NONE);
    }
}
