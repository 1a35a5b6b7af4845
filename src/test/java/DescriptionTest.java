/** Promise 4 and term 5: descriptions. */
public final class DescriptionTest {
    private static final int NONE = GhostRooms.NONE;

    private static GhostRooms x;

    public static void main(String[] args) {
        wholeHouse();
        blanksAndAdjacentTokens();
        keywordsAsNames();
        settings();
        ranges();
        statementsInOrder();
        syntaxErrors();
        lexicalErrors();
        nameErrors();
        tooMany();
        ghostErrors();
        nightsErrors();
        smallestCode();
        replaces();
        errorChangesNothing();
        longestText();
        Check.end();
    }

    private static void reads(String text, int rooms) {
        x = Houses.house(text);
        Check.due("rooms of '" + text + "'", x.roomCount(), rooms);
        Check.due("code of '" + text + "'", x.errorCode(), 0);
        Check.due("offset of '" + text + "'", x.errorOffset(), NONE);
    }

    private static void refuses(String text, int code, int offset) {
        x = Houses.house("house;room old 5;nights 3;");
        Houses.feed(x, text);
        String before = Houses.state(x);
        Check.due("'" + text + "'", Check.thrownBy(x::readText), "IllegalArgumentException");
        Check.due("code of '" + text + "'", x.errorCode(), code);
        Check.due("offset of '" + text + "'", x.errorOffset(), offset);
        Check.due("state after '" + text + "'", Houses.state(x), before);
        Check.due("input after '" + text + "'", Check.thrownBy(() -> x.truncate(1)), "IllegalArgumentException");
    }

    // Term 5: ""room" declares the next room and its coldness. "door" declares the next door and its noise level.
    //     "ghost" places the ghost in a room."
    private static void wholeHouse() {
        reads("house;room hall 12 thermo micro;room attic 0 micro;room b 99 thermo;room c 7;"
                + "door attic hall 9;door hall b 0 closed;ghost b;mode 2;chill 9;hearing 0;price 9;random 15;"
                + "coins 999;", 4);
        Check.due("the house", Houses.state(x), "settings 2 9 0 9 15 coins 999 0 night 0 moves 0 ghost 2 possible 15\n"
                + "hall 12 t m why 0 -1 -1\nattic 0 m why 0 -1 -1\nb 99 t why 0 -1 -1\nc 7 why 0 -1 -1\n"
                + "0-1 9 open\n0-2 0 closed\n");
        reads("house;", 0);
        Check.due("no ghost", x.ghostRoom(), NONE);
        Check.due("initial settings", Houses.state(x),
                "settings 0 1 5 2 7 coins 50 0 night 0 moves 0 ghost -1 possible 0\n");
    }

    private static void blanksAndAdjacentTokens() {
        reads(" \n house\n;\n room\na  5\n;  \n", 1);
        reads("house;room a5thermo;room b0006micro;door a b7closed;", 2);
        Check.yes("thermo behind a number", x.hasThermometer(0));
        Check.yes("micro behind a number", x.hasMicrophone(1));
        Check.due("four digits", x.coldness(1), 6);
        Check.no("closed behind a number", x.isOpen(0));
        refuses("house;\troom a 5;", 1, 6);
        refuses("house;\rroom a 5;", 1, 6);
    }

    private static void keywordsAsNames() {
        reads("house;room room 1;room house 2;room thermo 3 thermo;room closed 4;door room closed 1;ghost thermo;", 4);
        Check.due("ghost in a room named thermo", x.ghostRoom(), 2);
        Check.no("the room room has no thermometer", x.hasThermometer(0));
        Check.yes("the room thermo has one", x.hasThermometer(2));
        Check.yes("the door is open", x.isOpen(0));
    }

    private static void settings() {
        reads("house;mode 1;mode 2;mode 0;chill 1;hearing 9;price 1;random 0;coins 0;", 0);
        Check.due("settings", Houses.state(x), "settings 0 1 9 1 0 coins 0 0 night 0 moves 0 ghost -1 possible 0\n");
    }

    private static void ranges() {
        refuses("house;mode 3;", 2, 11);
        refuses("house;chill 0;", 2, 12);
        refuses("house;chill 10;", 2, 12);
        refuses("house;hearing 10;", 2, 14);
        refuses("house;price 0;", 2, 12);
        refuses("house;price 10;", 2, 12);
        refuses("house;random 16;", 2, 13);
        refuses("house;coins 1000;", 2, 12);
        refuses("house;room a 100;", 2, 13);
        refuses("house;room a 1;room b 1;door a b 10;", 2, 33);
        refuses("house;room a 1;nights 0;", 2, 22);
        refuses("house;room a 1;nights 51;", 2, 22);
        reads("house;room a 1;nights 50;nights 1;", 1);
        Check.due("nights", x.nightNumber(), 51);
        Check.due("coldness", x.coldness(0), 52);
    }

    private static void statementsInOrder() {
        reads("house;room a 5;nights 2;chill 3;nights 1;room b 0;door a b 1;nights 1;room c 4;", 3);
        Check.due("the house", Houses.state(x), "settings 0 3 5 2 7 coins 50 0 night 4 moves 1 ghost 1 possible 7\n"
                + "a 13 why 0 -1 -1\nb 0 why 0 -1 -1\nc 4 why 0 -1 -1\n0-1 1 open\n");
        reads("house;room a 5 thermo;room b 9;room c 9;nights 1;room d 0;", 4);
        Check.due("rooms without a contradiction", x.possibleRooms(), 0b1001);
        Check.due("excluded in the description", x.exclusionReason(1), 3);
        reads("house;room a 5;room b 5;ghost b;ghost a;ghost b;", 2);
        Check.due("the last ghost statement counts", x.ghostRoom(), 1);
    }

    private static void syntaxErrors() {
        refuses("", 1, 0);
        refuses("  \n ", 1, 4);
        refuses("house", 1, 5);
        refuses("house ", 1, 6);
        refuses("horse;", 1, 0);
        refuses(";", 1, 0);
        refuses("house;;", 1, 6);
        refuses("house;room", 1, 10);
        refuses("house;room a", 1, 12);
        refuses("house;room a 5", 1, 14);
        refuses("house;room a 5 ", 1, 15);
        refuses("house;room 5 a;", 1, 11);
        refuses("house;room a b;", 1, 13);
        refuses("house;room a 5 closed;", 1, 15);
        refuses("house;room a 5 micro thermo;", 1, 21);
        refuses("house;room a 5 thermo thermo;", 1, 22);
        refuses("house;room a 5 6;", 1, 15);
        refuses("house;house;", 1, 6);
        refuses("house;door 1", 1, 11);
        refuses("house;room a 1;door a;", 1, 21);
        refuses("house;room a 1;room b 1;door a b;", 1, 32);
        refuses("house;room a 1;room b 1;door a b 1 open;", 1, 35);
        refuses("house;room a 1;ghost;", 1, 20);
        refuses("house;room a 1;ghost 1;", 1, 21);
        refuses("house;mode;", 1, 10);
        refuses("house;mode a;", 1, 11);
        refuses("house;mode (1);", 1, 11);
        refuses("house;earn 5;", 1, 6);
        refuses("house;7;", 1, 6);
        refuses("house;)", 1, 6);
    }

    private static void lexicalErrors() {
        refuses("house;room abcdefghi 5;", 1, 11);
        reads("house;room abcdefgh 5;", 1);
        refuses("house;room a 00005;", 1, 13);
        reads("house;room a 0005;", 1);
        refuses("house;room A 5;", 1, 11);
        refuses("house;room a -5;", 1, 13);
        refuses("house;room a 5,", 1, 14);
        refuses("house;room a 5\0;", 1, 14);
        refuses("house;room \u00e4 5;", 1, 11);
        refuses("house;room \u00ff 5;", 1, 11);
        refuses("house;room ` 5;", 1, 11);
        refuses("house;room { 5;", 1, 11);
        refuses("house;room a /;", 1, 13);
        refuses("house;room a :;", 1, 13);
        refuses("houses;", 1, 0);
        refuses("hous e;", 1, 0);
        refuses("house;room a 1;room ab 1;ghost abcdefghijklmnop;", 1, 31);
        // as 64 bits the last eight letters of a longer word must not count for it
        refuses("xxxhouse;", 1, 0);
        refuses("house;aaaaroom a 5;", 1, 6);
        refuses("house;room a 4294967301;", 1, 13);
    }

    private static void nameErrors() {
        refuses("house;room a 1;room a 2;", 3, 20);
        refuses("house;room ab 1;room b 1;room a 1;room ab 1;", 3, 39);
        refuses("house;room a 1;door a a 1;", 3, 22);
        refuses("house;room a 1;door a b 1;", 4, 22);
        refuses("house;room a 1;door b a 1;", 4, 20);
        refuses("house;room a 1;door b b 1;", 4, 20);
        refuses("house;room a 1;ghost b;", 4, 21);
        refuses("house;room a 1;room b 1;door a b 1;door a b 2;", 6, 42);
        refuses("house;room a 1;room b 1;door a b 1 closed;door b a 2;", 6, 49);
    }

    private static void tooMany() {
        StringBuilder rooms = new StringBuilder("house;");
        for (char c = 'a'; c <= 'l'; c++) {
            rooms.append("room ").append(c).append(" 1;");
        }
        reads(rooms.toString(), 12);
        refuses(rooms + "room", 5, rooms.length());
        refuses(rooms + "room a 1;", 5, rooms.length());
        StringBuilder doors = new StringBuilder("house;");
        for (char c = 'a'; c <= 'h'; c++) {
            doors.append("room ").append(c).append(" 1;");
        }
        int count = 0;
        for (char a = 'a'; a <= 'h' && count < 24; a++) {
            for (char b = (char) (a + 1); b <= 'h' && count < 24; b++) {
                doors.append("door ").append(a).append(" ").append(b).append(" 1;");
                count++;
            }
        }
        reads(doors.toString(), 8);
        Check.due("doors", x.doorCount(), 24);
        refuses(doors + "door", 5, doors.length());
        refuses(doors + "door a b 1;", 5, doors.length());
    }

    private static void ghostErrors() {
        refuses("house;room a 5 thermo;room b 9;nights 1;ghost b;", 6, 46);
        reads("house;room a 5 thermo;room b 9;nights 1;ghost a;", 2);
    }

    private static void nightsErrors() {
        refuses("house;nights 1;", 6, 6);
        refuses("house;nights", 6, 6);
        refuses("house;nights 99;", 6, 6);
    }

    private static void smallestCode() {
        refuses("house;room a 1;room a 100;", 3, 20);
        refuses("house;room a 1;door a abcdefghi 1;", 1, 22);
        refuses("house;room a 1;room b 1;door a b 1;door a a 1;", 3, 42);
    }

    private static void replaces() {
        x = Houses.house("house;room a 1 thermo;room b 2;door a b 3;mode 2;coins 7;nights 4;");
        x.printReport();
        int length = x.printReport();
        String output = Houses.output(x, length);
        x.saveState();
        String saved = Houses.state(x);
        x.earnCoins(1);
        Check.due("a new house", Houses.read(x, "house;room c 4;"), 1);
        Check.due("all is replaced", Houses.state(x),
                "settings 0 1 5 2 7 coins 50 0 night 0 moves 0 ghost 0 possible 1\nc 4 why 0 -1 -1\n");
        Check.due("the input is emptied", Check.thrownBy(() -> x.truncate(1)), "IllegalArgumentException");
        Check.due("nothing to undo", Check.thrownBy(x::undo), "IllegalStateException");
        Check.due("the output is kept", Houses.output(x, length), output);
        Check.due("the saved state is kept", x.restoreState(), 4);
        Check.due("the saved state", Houses.state(x), saved);
    }

    private static void errorChangesNothing() {
        x = new GhostRooms();
        x.earnCoins(3);
        x.setChill(4);
        int length = x.printReport();
        Houses.feed(x, "house;room a 1;nights 3;chill 10;");
        Check.due("an error", Check.thrownBy(x::readText), "IllegalArgumentException");
        Check.due("the settings stay", x.chill(), 4);
        Check.due("no rooms", x.roomCount(), 0);
        Check.due("the output stays", length, 0);
        Check.due("undo", x.undo(), 1);
        Check.due("undo again", x.undo(), 0);
        Check.due("coins", x.coins(), 50);
    }

    private static void longestText() {
        StringBuilder text = new StringBuilder("house;room a 0;");
        while (text.length() < 591) {
            text.append("nights50;");
        }
        int nights = 50 * ((text.length() - 15) / 9);
        while (text.length() < 600) {
            text.append(' ');
        }
        reads(text.toString(), 1);
        Check.due("nights", x.nightNumber(), nights);
        refuses("house;" + " ".repeat(593) + "x", 1, 599);
        refuses("house;room " + "a".repeat(589), 1, 11);
        refuses("house;room a " + "1".repeat(587), 1, 13);
        refuses("house;" + "mode 1;".repeat(84) + "mode 1", 1, 600);
        refuses("a".repeat(600), 1, 0);
    }
}
