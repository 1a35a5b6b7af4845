/** The edges of term 5 and of promises 2 to 4, 6 and 7: the input buffer, tokens, descriptions and their errors. */
public final class EdgeTextTest {
    private static final int NONE = GhostRooms.NONE;

    /** Every kind of statement, token by token; a text that ends behind any ; of it is whole. */
    private static final String[] WHOLE = ("house ; room a 5 ; room b 6 thermo ; room c 7 micro ; "
            + "room d 8 thermo micro ; door a b 3 ; door b c 4 closed ; ghost b ; mode 1 ; chill 2 ; hearing 3 ; "
            + "price 4 ; random 5 ; coins 6 ; nights 2 ;").split(" ");

    private static GhostRooms x;

    public static void main(String[] args) {
        sixHundredBytes();
        byteOrder();
        lengthsToTruncate();
        truncatedBytes();
        truncatedTokens();
        blanksBetweenTokens();
        bytesOfNames();
        bytesOfNumbers();
        lengthsOfWords();
        lengthsOfNumbers();
        adjacentTokens();
        anyWordIsAName();
        endsTooEarly();
        wrongTokens();
        firstErroneousToken();
        emptyTexts();
        longestTexts();
        numbersAtTheirEnds();
        newRoomNames();
        secondRoomIsTheFirst();
        unknownNames();
        thirteenthRoom();
        twentyFifthDoor();
        secondDoorOfTwoRooms();
        ghostInImpossibleRoom();
        nightsWithoutRoom();
        smallestCode();
        statementsInOrder();
        replacesAll();
        nothingIsLeftOfTheOldHouse();
        errorsOfTheLatestText();
        Check.end();
    }

    private static void reads(String text, int rooms) {
        x = Houses.house(text);
        Check.due("rooms of '" + text + "'", x.roomCount(), rooms);
        Check.due("error of '" + text + "'", x.errorCode() + " " + x.errorOffset(), "0 -1");
    }

    private static void refuses(String text, int code, int offset) {
        x = new GhostRooms();
        Houses.feed(x, text);
        Check.throwsThe(Check.ARGUMENT, "'" + text + "'", x::readText);
        Check.due("error of '" + text + "'", x.errorCode() + " " + x.errorOffset(), code + " " + offset);
    }

    // Promise 2: "if the length would exceed 600"
    // Promise 2: "Returns the new length of the input buffer."
    private static void sixHundredBytes() {
        for (int length = 0; length <= 600; length++) {
            GhostRooms y = filled(length);
            Check.due("20 bytes more than " + length, Check.outcome(() -> y.feed(1, 2, 3, 4, 5)),
                    length <= 580 ? length + 20 : "IllegalStateException");
            int due = length <= 580 ? length + 20 : length;
            Check.due("the length behind it", Check.outcome(() -> y.truncate(due)), due);
        }
    }

    private static GhostRooms filled(int length) {
        GhostRooms y = new GhostRooms();
        Houses.feed(y, "x".repeat(length));
        return y;
    }

    // Promise 2: "Appends 20 bytes to the input buffer: the four bytes of each argument, most significant byte first."
    private static void byteOrder() {
        for (int place = 0; place < 20; place++) {
            int[] words = {0x20202020, 0x20202020, 0x20202020, 0x20202020, 0x20202020};
            words[place / 4] ^= 0xdf << 24 - place % 4 * 8;
            GhostRooms y = new GhostRooms();
            y.feed(words[0], words[1], words[2], words[3], words[4]);
            Check.throwsThe(Check.ARGUMENT, "byte 255 among blanks", y::readText);
            Check.due("byte 255 at " + place, y.errorCode() + " " + y.errorOffset(), "1 " + place);
        }
        GhostRooms y = new GhostRooms();
        y.feed(0x61626364, 0x65666768, 0x80000000, -1, Integer.MAX_VALUE);
        y.truncate(8);
        y.addRoom(5);
        Check.due("two words", Houses.name(y, 0), "abcdefgh");
    }

    // Promise 3: "new length, 0 to the current length"
    // Promise 3: "Returns the new length."
    private static void lengthsToTruncate() {
        for (int length : new int[] {0, 1, 20, 599, 600}) {
            for (int wrong : new int[] {Integer.MIN_VALUE, -1, length + 1, 601, Integer.MAX_VALUE}) {
                GhostRooms y = filled(length);
                Check.throwsThe(Check.ARGUMENT, wrong + " of " + length, () -> y.truncate(wrong));
                Check.due("the length behind it", y.truncate(length), length);
            }
            GhostRooms y = filled(length);
            Check.due("the current length", y.truncate(length), length);
            Check.due("half of it", y.truncate(length / 2), length / 2);
            Check.due("0", y.truncate(0), 0);
            Check.due("0 of 0", y.truncate(0), 0);
            Check.throwsThe(Check.ARGUMENT, "1 of 0", () -> y.truncate(1));
        }
    }

    // Promise 3: "Truncates the input buffer."
    private static void truncatedBytes() {
        GhostRooms y = new GhostRooms();
        Houses.feed(y, "abcdefgh");
        y.truncate(3);
        y.feed(0x78797a00, 0, 0, 0, 0);
        y.truncate(6);
        y.addRoom(5);
        Check.due("new bytes follow the kept ones", Houses.name(y, 0), "abcxyz");
    }

    // Promise 3: "Truncates the input buffer."
    // Term 5: "or the length of the text if it ends too early"
    private static void truncatedTokens() {
        truncated("house;", "house", "1 5");
        truncated("house ;", "house ", "1 6");
        truncated("house  ;", "house ", "1 6");
        truncated("house;", "hous", "1 0");
        truncated("house;mode 19;", "house;mode 1", "1 12");
        truncated("house;room ab 5;", "house;room a", "1 12");
        truncated("house;mode 1;", "house;", "0 -1");
        truncated("house;#", "house;", "0 -1");
        truncated("house;room abcdefghi", "house;room abcdefgh", "1 19");
        truncated("house;mode 00001", "house;mode 0000", "1 15");
    }

    private static void truncated(String text, String rest, String error) {
        GhostRooms y = new GhostRooms();
        Houses.feed(y, text + "x".repeat(60 - text.length()));
        y.truncate(rest.length());
        Check.thrownBy(y::readText);
        Check.due(text + " cut to " + rest, y.errorCode() + " " + y.errorOffset(), error);
    }

    // Term 5: "Spaces (byte 32) and line feeds (byte 10) may stand before, between and after tokens."
    private static void blanksBetweenTokens() {
        for (int value = 0; value < 256; value++) {
            boolean blank = value == 32 || value == 10;
            String odd = String.valueOf((char) value);
            if (blank) {
                reads(odd + "house;", 0);
                reads("house" + odd + ";", 0);
                reads("house;" + odd, 0);
            } else {
                refuses("house;" + odd, 1, 6);
                refuses(odd + ";", 1, 0);
                refuses("house;room a 5 " + odd + ";", 1, value == ';' ? 16 : 15);
            }
        }
        reads(" \n \n house\n \n;  \n\nroom  a\n5\n\n; \n ", 1);
        reads("house;room a5;", 1);
        refuses("house;rooma 5;", 1, 6);
    }

    // Term 5: "Tokens are words (maximal runs of the letters a to z, at most 8 letters)"
    private static void bytesOfNames() {
        for (int value = 0; value < 256; value++) {
            char odd = (char) value;
            if (value >= 'a' && value <= 'z') {
                reads("house;room " + odd + " 5;", 1);
                Check.due("name", x.nameByte(0, 0), value);
            } else if (value == ' ' || value == '\n') {
                refuses("house;room " + odd + " 5;", 1, 13);
            } else {
                refuses("house;room " + odd + " 5;", 1, 11);
            }
        }
    }

    // Term 5: "numbers (maximal runs of digits, at most 4 digits)"
    private static void bytesOfNumbers() {
        for (int value = 0; value < 256; value++) {
            char odd = (char) value;
            if (value >= '0' && value <= '9') {
                reads("house;room a " + odd + ";", 1);
                Check.due("coldness", x.coldness(0), value - '0');
            } else if (value == ' ' || value == '\n') {
                refuses("house;room a " + odd + ";", 1, 14);
            } else {
                refuses("house;room a " + odd + ";", 1, 13);
            }
        }
    }

    // Term 5: "a byte belongs to no token, a word or number is too long"
    private static void lengthsOfWords() {
        for (int length = 1; length <= 8; length++) {
            String name = "abcdefgh".substring(0, length);
            reads("house;room " + name + " 5;", 1);
            Check.due("name", Houses.name(x, 0), name);
        }
        for (int length : new int[] {9, 10, 16, 17, 589}) {
            refuses("house;room " + "a".repeat(length), 1, 11);
        }
        refuses("house;room abcdefghi 5;", 1, 11);
        refuses("house;room a 5 aathermo;", 1, 15);
        refuses("xxxxhouse;", 1, 0);
        refuses("house;xxxxxroom a 5;", 1, 6);
    }

    // Term 5: "a byte belongs to no token, a word or number is too long"
    private static void lengthsOfNumbers() {
        for (String number : new String[] {"5", "05", "005", "0005"}) {
            reads("house;room a " + number + ";", 1);
            Check.due("coldness", x.coldness(0), 5);
        }
        refuses("house;room a 00005;", 1, 13);
        refuses("house;room a " + "0".repeat(587), 1, 13);
        // the low 32 and 64 bits of these numbers are 5
        refuses("house;room a 4294967301;", 1, 13);
        refuses("house;room a 18446744073709551621;", 1, 13);
        refuses("house;coins 9999;", 2, 12);
        refuses("house;coins 10000;", 1, 12);
    }

    // Term 5: "Adjacent words and numbers need no space between them."
    private static void adjacentTokens() {
        reads("house;room a5thermo micro;room b6micro;door a b7closed;mode1;chill2;nights3;", 2);
        Check.due("the house", Houses.state(x), "settings 1 2 5 2 7 coins 50 0 night 3 moves 0 ghost 0 possible 1\n"
                + "a 11 t m why 0 -1 -1\nb 6 m why 2 -1 -1\n0-1 7 closed\n");
        refuses("house;room a5thermomicro;", 1, 13);
        refuses("house;room a 5 6;", 1, 15);
    }

    // Term 5: "A name is any word; N is a number."
    private static void anyWordIsAName() {
        String[] words = {"house", "room", "thermo", "micro", "door", "closed", "ghost", "mode", "nights", "coins"};
        StringBuilder text = new StringBuilder("house;");
        for (String word : words) {
            text.append("room ").append(word).append(" 5;");
        }
        reads(text + "door closed door 1;ghost ghost;", 10);
        Check.due("the door", x.lowRoom(0) + " " + x.highRoom(0) + " " + x.isOpen(0), "4 5 true");
        Check.due("the ghost", x.ghostRoom(), 6);
        reads("house;room thermo 5 thermo;room micro 5 micro;door thermo micro 1 closed;", 2);
        Check.due("thermometers", x.hasThermometer(0) + " " + x.hasThermometer(1), "true false");
        refuses("house;room 5 5;", 1, 11);
        refuses("house;room a a;", 1, 13);
    }

    // Term 5: "or the length of the text if it ends too early"
    // Term 5: "```text house = "house" ";" { statement ";" } statement = "room" name N [ "thermo" ] [ "micro" ] |
    //     "door" name name N [ "closed" ] | "ghost" name | ( "mode" | "chill" | "hearing" | "price" | "random" |
    //     "coins" | "nights" ) N ```"
    private static void endsTooEarly() {
        StringBuilder text = new StringBuilder();
        int rooms = 0;
        refuses("", 1, 0);
        for (int i = 0; i < WHOLE.length; i++) {
            text.append(WHOLE[i]);
            rooms += WHOLE[i].equals("room") ? 1 : 0;
            if (WHOLE[i].equals(";")) {
                reads(text.toString(), rooms);
                reads(text + " \n", rooms);
            } else {
                refuses(text.toString(), 1, text.length());
                refuses(text + " \n ", 1, text.length() + 3);
            }
            text.append(' ');
        }
    }

    // Term 5: "Tokens are words (maximal runs of the letters a to z, at most 8 letters), numbers (maximal runs of
    //     digits, at most 4 digits) and the single characters ; ( and )."
    // Term 5: "1: the token is not allowed here, a byte belongs to no token, a word or number is too long, or the text
    //     ends too early."
    private static void wrongTokens() {
        for (String wrong : new String[] {"(", ")", "#", "\u00e1", "A", "\0", "\t", "abcdefghi", "12345", "_a", "-1"}) {
            StringBuilder text = new StringBuilder();
            for (String token : WHOLE) {
                refuses(text + wrong + " ;", 1, text.length());
                text.append(token).append(' ');
            }
            refuses(text + wrong, 1, text.length());
        }
        refuses("house ; ;", 1, 8);
        refuses("house ; room a 5 ; ;", 1, 19);
        refuses("house ; house ;", 1, 8);
        refuses("house ; earn 5 ;", 1, 8);
        refuses("house ; thermo a on ;", 1, 8);
        refuses("house ; room a 5 closed ;", 1, 17);
        refuses("house ; room a 5 micro thermo ;", 1, 23);
        refuses("house ; room a 5 thermo thermo ;", 1, 24);
        refuses("house ; room a 5 micro micro ;", 1, 23);
        refuses("house ; room a 5 ; room b 5 ; door a b 1 closed closed ;", 1, 48);
        refuses("house ; room a 5 ; room b 5 ; door a b 1 open ;", 1, 41);
        refuses("house ; mode 1 1 ;", 1, 15);
        refuses("house ; room a 5 ; ghost a 1 ;", 1, 27);
    }

    // Term 5: "Parsing stops at the first erroneous token. The error offset is the index of the first byte of that
    //     token, or the length of the text if it ends too early."
    private static void firstErroneousToken() {
        refuses("house;room a 5;ghost b;#", 4, 21);
        refuses("house;mode 3;mode;", 2, 11);
        refuses("house;nights 0;room abcdefghi", 6, 6);
        refuses("house;room a 5;room a 100", 3, 20);
        refuses("#;mode 3;", 1, 0);
        refuses("house;chill 10#", 2, 12);
    }

    // Promise 4: "if the text has an error; then only the input buffer and the error change"
    private static void emptyTexts() {
        refuses("", 1, 0);
        refuses(" ", 1, 1);
        refuses("\n", 1, 1);
        refuses(" ".repeat(600), 1, 600);
        refuses(";", 1, 0);
        refuses("house", 1, 5);
        reads("house;", 0);
    }

    // Term 5: "A text is read from an input buffer of at most 600 bytes."
    private static void longestTexts() {
        reads("house;" + " ".repeat(594), 0);
        reads(" ".repeat(594) + "house;", 0);
        refuses(" ".repeat(595) + "house", 1, 600);
        refuses("house;" + " ".repeat(593) + "#", 1, 599);
        refuses("house;" + "\n".repeat(593) + "a", 1, 599);
        String nights = "house;room a 0;" + "nights50;".repeat(65);
        reads(nights, 1);
        Check.due("600 bytes of nights", nights.length() + " " + x.nightNumber() + " " + x.coldness(0), "600 3250 99");
        String modes = "house;" + "mode 2;".repeat(84);
        refuses(modes + "mode 2", 1, 600);
        reads(modes + "mode1;", 0);
        Check.due("the last statement", modes.length() + 6 + " " + x.mode(), "600 1");
    }

    // Term 5: "2: a number is out of range."
    private static void numbersAtTheirEnds() {
        String two = "house;room a 5;room b 5;";
        ends("house;room a ", 0, 99);
        ends(two + "door a b ", 0, 9);
        ends(two + "nights ", 1, 50);
        ends("house;mode ", 0, 2);
        ends("house;chill ", 1, 9);
        ends("house;hearing ", 0, 9);
        ends("house;price ", 1, 9);
        ends("house;random ", 0, 15);
        ends("house;coins ", 0, 999);
    }

    private static void ends(String front, int least, int most) {
        int rooms = front.split("room").length - 1;
        for (int value : new int[] {least, least + 1, most - 1, most}) {
            reads(front + value + ";", rooms);
            reads(front + String.format("%04d", value) + ";", rooms);
        }
        if (least > 0) {
            refuses(front + (least - 1) + ";", 2, front.length());
            refuses(front + "0000;", 2, front.length());
        }
        for (int value : new int[] {most + 1, most + 10, 9999}) {
            refuses(front + value + ";", 2, front.length());
        }
        refuses(front + "00000;", 1, front.length());
        refuses(front + "-1;", 1, front.length());
    }

    // Term 5: "3: a new room has the name of an existing room; the second room of a door is its first room."
    private static void newRoomNames() {
        String eleven = Houses.rooms(11, 5);
        reads(eleven + "room l 5;", 12);
        for (int room = 0; room < 11; room++) {
            refuses(eleven + "room " + Houses.letter(room) + " 5;", 3, eleven.length() + 5);
        }
        reads("house;room abcdefgh 5;room abcdefgg 5;room bbcdefgh 5;room abcdefg 5;", 4);
        refuses("house;room abcdefgh 5;room abcdefgh 5;", 3, 27);
        refuses("house;room a 5;room a", 3, 20);
    }

    // Term 5: "3: a new room has the name of an existing room; the second room of a door is its first room."
    private static void secondRoomIsTheFirst() {
        String two = "house;room a 5;room b 5;";
        refuses(two + "door a a 1;", 3, 31);
        refuses(two + "door b b 1;", 3, 31);
        refuses(two + "door a b 1;door a a 1;", 3, 42);
        reads(two + "door b a 1;", 2);
    }

    // Term 5: "4: a name that must denote an existing room does not."
    private static void unknownNames() {
        String two = "house;room ab 5;room b 5;";
        refuses(two + "door a b 1;", 4, 30);
        refuses(two + "door b a 1;", 4, 32);
        refuses(two + "door c c 1;", 4, 30);
        refuses(two + "ghost a;", 4, 31);
        refuses(two + "ghost abc;", 4, 31);
        refuses(two + "ghost ba;", 4, 31);
        reads(two + "ghost ab;", 2);
        refuses("house;ghost a;", 4, 12);
        refuses("house;door a b 1;", 4, 11);
        refuses("house;ghost a;room a 5;", 4, 12);
    }

    // Term 5: "5: the word "room" of a 13th room"
    private static void thirteenthRoom() {
        String twelve = Houses.rooms(12, 5);
        reads(twelve, 12);
        refuses(twelve + "room m 5;", 5, twelve.length());
        refuses(twelve + "room a 5;", 5, twelve.length());
        refuses(twelve + "room", 5, twelve.length());
        refuses(twelve + "\n room #", 5, twelve.length() + 2);
        reads(twelve + "door a l 1;mode 1;ghost l;nights 1;", 12);
        // the rooms of the house before do not count
        x = Houses.house(twelve);
        Check.due("twelve rooms behind twelve", Houses.read(x, twelve), 12);
    }

    // Term 5: "or the word "door" of a 25th door"
    private static void twentyFifthDoor() {
        String full = Houses.rooms(8, 5) + Houses.doors(24, 1);
        reads(full, 8);
        Check.due("24 doors", x.doorCount(), 24);
        refuses(full + "door e h 1;", 5, full.length());
        refuses(full + "door a b 1;", 5, full.length());
        refuses(full + "door", 5, full.length());
        reads(full + "room i 5;", 9);
        x = Houses.house(full);
        Houses.read(x, full);
        Check.due("24 doors behind 24", x.doorCount(), 24);
    }

    // Term 5: "6: the second name of a door if a door already connects both rooms"
    private static void secondDoorOfTwoRooms() {
        String three = "house;room a 5;room b 5;room c 5;door a b 1;door b c 1 closed;";
        refuses(three + "door a b 1;", 6, three.length() + 7);
        refuses(three + "door b a 1;", 6, three.length() + 7);
        refuses(three + "door b c 1;", 6, three.length() + 7);
        refuses(three + "door c b", 6, three.length() + 7);
        reads(three + "door c a 1;", 3);
    }

    // Term 5: "the name of "ghost" if that room is not possible"
    private static void ghostInImpossibleRoom() {
        String text = "house;room a 5 thermo;room b 5;nights 1;";
        refuses(text + "ghost b;", 6, text.length() + 6);
        reads(text + "ghost a;", 2);
        reads(text + "room c 5;ghost c;", 3);
        Check.due("the ghost", x.ghostRoom(), 2);
        reads("house;room a 5 thermo;room b 5;ghost b;nights 1;", 2);
        refuses("house;room a 5 thermo;room b 5;ghost b;nights 1;ghost a;", 6, 54);
    }

    // Term 5: "the word "nights" if there is no room"
    private static void nightsWithoutRoom() {
        refuses("house;nights 1;", 6, 6);
        refuses("house;nights 0;", 6, 6);
        refuses("house;nights", 6, 6);
        refuses("house;mode 1;nights 51;", 6, 13);
        reads("house;room a 5;nights 1;", 1);
    }

    // Term 5: "If several error codes apply to the same token, the smallest is reported"
    private static void smallestCode() {
        String twelve = Houses.rooms(12, 5);
        // too long and out of range
        refuses("house;mode 99999;", 1, 11);
        refuses("house;room a 5;nights 00000;", 1, 22);
        // too long and an unknown name
        refuses("house;ghost abcdefghi;", 1, 12);
        refuses("house;room a 5;door a abcdefghi 1;", 1, 22);
        // not allowed here and the word of a 13th room or a 25th door, or "nights" without a room
        refuses(twelve.substring(0, twelve.length() - 1) + " room m 5;", 1, twelve.length());
        refuses("house nights 1;", 1, 6);
        refuses("nights 1;", 1, 0);
        String full = Houses.rooms(8, 5) + Houses.doors(24, 1);
        refuses(full.substring(0, full.length() - 1) + " door e h 1;", 1, full.length());
    }

    // Term 5: "Statements take effect in the order in which they are read."
    private static void statementsInOrder() {
        reads("house;room a 5;chill 2;nights 1;chill 9;nights 1;mode 2;mode 1;", 1);
        Check.due("chills", x.coldness(0) + " " + x.chill() + " " + x.mode(), "16 9 1");
        reads("house;room a 5;room b 0;nights 1;door a b 1;nights 1;", 2);
        Check.due("the door behind one night", x.ghostMoves() + " " + x.nightNumber(), "1 2");
    }

    // Promise 4: "Parses the input buffer as a description and replaces the house, the settings and the counters."
    // Promise 4: "The input buffer is emptied, also on an error. Afterwards nothing can be undone. The output and the
    //     saved state are kept."
    private static void replacesAll() {
        GhostRooms y = new GhostRooms();
        Twins.LIVELY.on(y);
        y.truncate(0);
        int length = y.printReport();
        String output = Houses.output(y, length);
        Check.due("an empty house", Houses.read(y, "house;"), 0);
        Check.due("all is replaced", Houses.describe(y),
                "error 0 -1\nsettings 0 1 5 2 7 coins 50 0 night 0 moves 0 ghost -1 possible 0\n");
        Check.due("no doors", y.doorCount(), 0);
        Check.throwsThe(Check.STATE, "nothing to undo", y::undo);
        Check.throwsThe(Check.ARGUMENT, "the input is emptied", () -> y.truncate(1));
        Check.due("the output", Houses.output(y, length), output);
        Check.throwsThe(Check.INDEX, "no byte behind it", () -> y.outputByte(length));
        Check.due("the saved state", y.restoreState() + " " + y.roomCount(), "3 3");
        Houses.feed(y, "house");
        Check.throwsThe(Check.ARGUMENT, "an error", y::readText);
        Check.throwsThe(Check.ARGUMENT, "empties the input, too", () -> y.truncate(1));
    }

    // Promise 4: "replaces the house, the settings and the counters"
    private static void nothingIsLeftOfTheOldHouse() {
        String full = Houses.rooms(12, 99).replace("99;", "99thermo micro;") + Houses.doors(24, 9)
                + "mode2;chill9;hearing0;price9;random3;coins99;";
        String small = "house;room a 5;room b 6;room c 9;door b a 3;";
        GhostRooms fresh = Houses.house(small);
        GhostRooms used = Houses.house(full);
        used.warm(3, 50);
        used.holdSeance(1);
        used.passNights(9);
        used.setDoorOpen(3, false);
        used.nightsUntilKnown();
        Check.yes("a full house that was lived in", used.ghostMoves() > 0 && used.coinsSpent() > 0);
        Check.due("a small house", Houses.read(used, small), 3);
        Check.due("all that it answers", Houses.everything(used), Houses.everything(fresh));
        Check.due("open doors", used.setDoorOpen(0, false), 0);
        Check.due("thermometers", used.setThermometer(1, true), 1);
        Check.due("microphones", used.setMicrophone(1, true), 1);
        Check.due("a new door", used.addDoor(1, 2, 9), 1);
        Check.due("open doors", used.setDoorOpen(0, true), 2);
        Check.due("a new room", Houses.addRoom(used, "d", 1), 3);
        Check.due("of the new door and room", used.isOpen(1) + " " + used.hasThermometer(3) + " " + used.neighbors(3),
                "true false 0");
    }

    // Promise 6: "Returns the code; 0 if that text had no error or there was no such call."
    // Promise 6: "Returns the error code of the latest call of readText() or runScript()."
    // Promise 7: "Returns the offset; NONE if that text had no error or there was no such call."
    // Promise 7: "Returns the error offset of the latest call of readText() or runScript()."
    private static void errorsOfTheLatestText() {
        GhostRooms y = new GhostRooms();
        Check.due("no such call", y.errorCode() + " " + y.errorOffset(), "0 " + NONE);
        Houses.feed(y, "house;ghost a;");
        Check.thrownBy(y::readText);
        Check.due("a description", y.errorCode() + " " + y.errorOffset(), "4 12");
        Check.thrownBy(y::readText);
        Check.due("the empty text behind it", y.errorCode() + " " + y.errorOffset(), "1 0");
        Check.due("an empty script", y.runScript(), 0);
        Check.due("no error", y.errorCode() + " " + y.errorOffset(), "0 " + NONE);
        Houses.feed(y, "repeat 21 ();");
        Check.thrownBy(y::runScript);
        Check.due("a script", y.errorCode() + " " + y.errorOffset(), "2 7");
        Check.thrownBy(() -> y.truncate(5));
        Check.thrownBy(() -> y.addRoom(5));
        Check.due("other refused calls have no error", y.errorCode() + " " + y.errorOffset(), "2 7");
        Houses.read(y, "house;");
        Check.due("no error", y.errorCode() + " " + y.errorOffset(), "0 " + NONE);
        Houses.script(y, "nights 1;");
        Check.due("a command that is refused is no error of the text", y.errorCode() + " " + y.errorOffset(),
                "0 " + NONE);
    }
}
