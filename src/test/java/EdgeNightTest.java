/** The edges of terms 3 and 4 and of promises 14 to 16, 20, 35 to 38, 53 and 54: nights, seances and reasons. */
public final class EdgeNightTest {
    public static void main(String[] args) {
        nightNumber();
        smallestColdness();
        staysAmongTheColdest();
        lowestOfTheColdest();
        smallestNoise();
        lowestBehindTheQuietest();
        lowestInEveryOrder();
        staysWithoutNeighbor();
        randomStateWraps();
        randomStateWithoutNeighbor();
        everyRandomMove();
        coldnessUpTo99();
        chillOfTheRoomLeft();
        coldThermometer();
        thermometerThatReaches99();
        thermometerElsewhere();
        monitored();
        reportOfAMonitoredDoor();
        closedDoorReports();
        sources();
        declaredRooms();
        addedRooms();
        priceOnce();
        positiveAnswer();
        negativeAnswer();
        ignoredBits();
        noRoomOfTheSet();
        everyRoomOfTheSet();
        priceAndCoins();
        reasonsOfPossibleRooms();
        reasonsOfImpossibleRooms();
        seanceEvidence();
        noSource();
        thermometerEvidence();
        doorEvidence();
        thermometerBeforeDoor();
        lowestSourceDecides();
        addedRoomReason();
        seanceKeepsReasons();
        reasonsAnew();
        nights();
        lastNight();
        nightsWithoutRoom();
        possibleRoomsReturned();
        Check.end();
    }

    private static String why(GhostRooms x, int room) {
        return x.exclusionReason(room) + " " + x.exclusionEvidence(room) + " " + x.exclusionSource(room);
    }

    private static int ghostAfterOneNight(String text) {
        GhostRooms x = Houses.house(text);
        x.passNights(1);
        return x.ghostRoom();
    }

    private static int possibleAfterOneNight(String text) {
        GhostRooms x = Houses.house(text);
        x.passNights(1);
        return x.possibleRooms();
    }

    // Term 3: "Step 1: the night number is incremented."
    private static void nightNumber() {
        GhostRooms x = Houses.house(Houses.rooms(1, 99));
        Check.due("before the first night", x.nightNumber(), 0);
        x.passNights(1);
        Check.due("the first night", x.nightNumber(), 1);
        x.passNights(49);
        Check.due("the fiftieth", x.nightNumber(), 50);
    }

    // Term 3: "In mode 0 the destination is the room with the smallest coldness among the current room and its
    //     neighbors."
    private static void smallestColdness() {
        Check.due("0 among 1", ghostAfterOneNight("house;room a 1;room b 0;door a b 9;"), 1);
        Check.due("98 among 99", ghostAfterOneNight("house;room a 99;room b 98;door a b 9;"), 1);
        Check.due("the current room", ghostAfterOneNight("house;room a 98;room b 99;door a b 0;"), 0);
        Check.due("a closed door", ghostAfterOneNight("house;room a 99;room b 0;door a b 0 closed;"), 0);
        Check.due("two doors away", ghostAfterOneNight("house;room a 5;room b 6;room c 0;door a b 0;door b c 0;"), 0);
        Check.due("no neighbor", ghostAfterOneNight(Houses.rooms(12, 99)), 0);
        String twelve = "house;room l 9;" + Houses.rooms(10, 8).substring(6) + "room k 7;";
        Check.due("the last room", ghostAfterOneNight(twelve + "door l a 0;door l k 9;door l b 0;"), 11);
    }

    // Term 3: "If the current room is one of several such rooms, the ghost stays."
    private static void staysAmongTheColdest() {
        for (int center : new int[] {0, 5, 11}) {
            for (int cold : new int[] {0, 99}) {
                String text = Houses.rooms(12, cold) + Houses.star(center, 12, 0) + Houses.ghost(center);
                Check.due("eleven as cold", ghostAfterOneNight(text), center);
            }
        }
    }

    // Term 3: "Otherwise the lowest-numbered of them is the destination."
    private static void lowestOfTheColdest() {
        Check.due("eleven neighbors", ghostAfterOneNight(centerColder(0)), 1);
        Check.due("eleven neighbors", ghostAfterOneNight(centerColder(5)), 0);
        Check.due("eleven neighbors", ghostAfterOneNight(centerColder(11)), 0);
    }

    private static String centerColder(int center) {
        char name = Houses.letter(center);
        return Houses.rooms(12, 4).replace("room " + name + " 4", "room " + name + " 5") + Houses.star(center, 12, 0)
                + Houses.ghost(center);
    }

    // Term 3: "In mode 1 the destination is the neighbor behind the open door with the smallest noise level."
    private static void smallestNoise() {
        String rooms = "house;mode 1;room a 0;room b 99;room c 0;";
        Check.due("0 behind 1", ghostAfterOneNight(rooms + "door a c 1;door a b 0;"), 1);
        Check.due("0 before 1", ghostAfterOneNight(rooms + "door a b 0;door a c 1;"), 1);
        Check.due("0 to the higher room, before 1", ghostAfterOneNight(rooms + "door a c 0;door a b 1;"), 2);
        Check.due("0 to the higher room, behind 1", ghostAfterOneNight(rooms + "door a b 1;door a c 0;"), 2);
        Check.due("8 behind 9", ghostAfterOneNight(rooms + "door a c 9;door a b 8;"), 1);
        Check.due("9 alone", ghostAfterOneNight(rooms + "door a b 9;"), 1);
        Check.due("0 but closed", ghostAfterOneNight(rooms + "door a b 0 closed;door a c 9;"), 2);
        Check.due("0 but of other rooms", ghostAfterOneNight(rooms + "door b c 0;door a b 9;"), 1);
    }

    // Term 3: "Of several such doors the one to the lowest-numbered room is used."
    private static void lowestBehindTheQuietest() {
        for (int noise : new int[] {0, 9}) {
            for (int center : new int[] {0, 5, 11}) {
                String text = Houses.rooms(12, 5) + "mode 1;" + Houses.star(center, 12, noise) + Houses.ghost(center);
                Check.due("eleven doors, the highest room's first", ghostAfterOneNight(text), center == 0 ? 1 : 0);
            }
        }
    }

    // Term 3: "Of several such doors the one to the lowest-numbered room is used."
    private static void lowestInEveryOrder() {
        String rooms = Houses.rooms(4, 5) + "mode 1;";
        for (String order : new String[] {"bcd", "bdc", "cbd", "cdb", "dbc", "dcb"}) {
            StringBuilder doors = new StringBuilder();
            for (char room : order.toCharArray()) {
                doors.append("door a ").append(room).append(" 4;");
            }
            Check.due("doors to " + order, ghostAfterOneNight(rooms + doors), 1);
            Check.due("doors to " + order + ", that to b louder",
                    ghostAfterOneNight(rooms + doors.toString().replace("b 4", "b 5")), 2);
        }
    }

    // Term 3: "In mode 1 the ghost stays if the current room has no neighbor."
    private static void staysWithoutNeighbor() {
        Check.due("one room", ghostAfterOneNight("house;mode 1;room a 5;"), 0);
        Check.due("no door here", ghostAfterOneNight(Houses.rooms(3, 5) + "mode 1;door a b 0;ghost c;"), 2);
        Check.due("a closed door", ghostAfterOneNight(Houses.rooms(2, 5) + "mode 1;door a b 0 closed;ghost b;"), 1);
    }

    // Term 3: "In mode 2 the random state is first replaced by (5 * state + 3) modulo 16"
    private static void randomStateWraps() {
        int[] next = {3, 8, 13, 2, 7, 12, 1, 6, 11, 0, 5, 10, 15, 4, 9, 14};
        for (int state = 0; state < 16; state++) {
            GhostRooms x = Houses.house(Houses.rooms(2, 5) + "door a b 1;mode 2;random " + state + ";");
            x.passNights(1);
            Check.due("the state behind " + state, x.randomState(), next[state]);
            x.passNights(16);
            Check.due("sixteen nights later", x.randomState(), next[state]);
        }
        for (int mode = 0; mode < 2; mode++) {
            GhostRooms x = Houses.house(Houses.rooms(2, 5) + "door a b 1;mode " + mode + ";nights 3;");
            Check.due("only in mode 2", x.randomState(), 7);
        }
    }

    // Term 3: "also if the current room has no neighbor"
    private static void randomStateWithoutNeighbor() {
        for (int state = 0; state < 16; state++) {
            GhostRooms x = Houses.house(Houses.rooms(2, 5) + "door a b 1 closed;mode 2;random " + state + ";");
            x.passNights(1);
            Check.due("the state behind " + state, x.randomState(), (5 * state + 3) % 16);
            Check.due("the ghost", x.ghostRoom(), 0);
        }
    }

    // Term 3: "If the current room has n neighbors, k is the new random state modulo (n + 1). The ghost stays if k is
    //     0. Otherwise its destination is the k-th neighbor in ascending room order, counted from 1."
    private static void everyRandomMove() {
        for (int count = 1; count <= 12; count++) {
            for (int center : new int[] {0, count / 2, count - 1}) {
                for (int state = 0; state < 16; state++) {
                    String text = Houses.rooms(count, 5) + Houses.star(center, count, 3) + Houses.ghost(center)
                            + "mode 2;random " + state + ";";
                    int k = (5 * state + 3) % 16 % count;
                    int due = k == 0 ? center : k <= center ? k - 1 : k;
                    Check.due("room " + center + " of " + count + ", state " + state, ghostAfterOneNight(text), due);
                }
            }
        }
    }

    // Term 3: "increases by the chill, but not beyond 99. This also happens if the ghost stays."
    private static void coldnessUpTo99() {
        for (int cold = 88; cold <= 99; cold++) {
            for (int chill = 1; chill <= 9; chill++) {
                String text = "house;mode 1;room a " + cold + ";room b 7;chill " + chill + ";";
                GhostRooms stays = Houses.house(text + "nights 1;");
                Check.due(cold + " and " + chill + ", staying", stays.coldness(0), Math.min(99, cold + chill));
                GhostRooms leaves = Houses.house(text + "door a b 1;nights 1;");
                Check.due(cold + " and " + chill + ", leaving", leaves.coldness(0), Math.min(99, cold + chill));
            }
        }
    }

    // Term 3: "Step 3: the coldness of the room that the ghost occupies before it moves increases by the chill"
    private static void chillOfTheRoomLeft() {
        GhostRooms x = Houses.house("house;mode 1;room a 0;room b 0;door a b 1;chill 9;");
        x.passNights(1);
        Check.due("a was left", x.coldness(0) + " " + x.coldness(1), "9 0");
        x.passNights(1);
        Check.due("b was left", x.coldness(0) + " " + x.coldness(1), "9 9");
    }

    // Term 3: "A thermometer whose room had coldness 99 before step 3 reports nothing."
    private static void coldThermometer() {
        for (int cold = 0; cold <= 99; cold++) {
            Check.due("in the ghost's room at " + cold,
                    possibleAfterOneNight("house;room a " + cold + " thermo;room b 5;"), cold == 99 ? 0b11 : 0b01);
            Check.due("in the other room at " + cold,
                    possibleAfterOneNight("house;room a 5;room b " + cold + " thermo;"), cold == 99 ? 0b11 : 0b01);
        }
    }

    // Term 3: "A thermometer whose room had coldness 99 before step 3 reports nothing."
    private static void thermometerThatReaches99() {
        GhostRooms x = Houses.house("house;room a 98 thermo;room b 99;room c 99;door a b 0;door b c 0;");
        x.passNights(1);
        Check.due("it reports in the night in which its room reaches 99", x.possibleRooms(), 0b011);
        Check.due("coldness", x.coldness(0), 99);
        x.passNights(1);
        Check.due("it is silent in the next", x.possibleRooms(), 0b111);
        x.undo();
        x.warm(0, 1);
        x.passNights(1);
        Check.due("it reports again at 98", x.possibleRooms(), 0b011);
    }

    // Term 3: "A thermometer reports whether the ghost occupied its room before the move."
    private static void thermometerElsewhere() {
        String rooms = "house;mode 1;room a 5 %s;room b 5 %s;room c 5;door a b 0;";
        Check.due("in the room left", possibleAfterOneNight(String.format(rooms, "thermo", "")), 0b011);
        Check.due("in the room entered", possibleAfterOneNight(String.format(rooms, "", "thermo")), 0b111);
        Check.due("in a lone room", possibleAfterOneNight("house;room a 5 thermo;"), 1);
    }

    // Term 3: "A door is monitored if its noise level is at least the hearing threshold and at least one of its two
    //     rooms has a microphone."
    // Promise 32: "Tells whether a door is monitored, see section 3. Closed doors can be monitored, too. - `door`:
    //     index of a door Returns whether it is monitored."
    private static void monitored() {
        String[] kits = {" ; ", " micro; ", "; micro", " micro; micro"};
        for (int noise = 0; noise <= 9; noise++) {
            for (int hearing = 0; hearing <= 9; hearing++) {
                for (int kit = 0; kit < 4; kit++) {
                    String[] micro = kits[kit].split(";");
                    String text = "house;room a 5" + micro[0] + ";room b 5" + micro[1] + ";room c 5 micro;hearing "
                            + hearing + ";door b a " + noise;
                    boolean due = noise >= hearing && kit > 0;
                    Check.due(text, Houses.house(text + ";").isMonitored(0), due);
                    Check.due(text + " closed", Houses.house(text + " closed;").isMonitored(0), due);
                }
            }
        }
    }

    // Term 3: "For each monitored door it is reported whether the ghost passed through it in this night."
    private static void reportOfAMonitoredDoor() {
        for (int noise = 0; noise <= 9; noise++) {
            String passing = "house;mode 1;room a 5;room b 5 micro;room c 5;door a b " + noise + ";hearing ";
            Check.due("passed, noise at the threshold", possibleAfterOneNight(passing + noise + ";"), 0b011);
            String resting = "house;room a 5;room b 5;room c 5;room d 0 micro;door c d " + noise + ";hearing ";
            String known = "ask d;nights 1;";
            GhostRooms x = Houses.house(resting + noise + ";");
            Houses.script(x, known);
            Check.due("silent, noise at the threshold", x.possibleRooms(), 0b0111);
            if (noise < 9) {
                Check.due("passed, noise below", possibleAfterOneNight(passing + (noise + 1) + ";"), 0b111);
                GhostRooms y = Houses.house(resting + (noise + 1) + ";");
                Houses.script(y, known);
                Check.due("silent, noise below", y.possibleRooms(), 0b1111);
            }
        }
    }

    // Promise 32: "Closed doors can be monitored, too."
    private static void closedDoorReports() {
        GhostRooms x = Houses.house("house;mode 1;room a 5 micro;room b 5;door a b 9 closed;");
        Check.yes("monitored", x.isMonitored(0));
        x.passNights(1);
        Check.due("it is silent, and nobody could have passed it", x.possibleRooms(), 0b11);
    }

    // Term 3: "q was possible before the night, q equals r or is a neighbor of r"
    private static void sources() {
        GhostRooms x = Houses.house(Houses.rooms(12, 5) + Houses.star(5, 12, 0) + Houses.ghost(5));
        x.holdSeance(1 << 5);
        Check.due("one possible room", x.possibleRooms(), 1 << 5);
        x.passNights(1);
        Check.due("it and its eleven neighbors", x.possibleRooms(), 0xfff);
        GhostRooms y = Houses.house(Houses.rooms(3, 5) + "door a b 0 closed;door b c 0;");
        y.holdSeance(1);
        y.passNights(1);
        Check.due("not through a closed door", y.possibleRooms(), 0b001);
        GhostRooms z = Houses.house(Houses.rooms(3, 5) + "door a b 0;door b c 0;");
        z.holdSeance(1);
        z.passNights(1);
        Check.due("one door a night", z.possibleRooms(), 0b011);
        z.passNights(1);
        Check.due("and the next one", z.possibleRooms(), 0b111);
    }

    // Term 4: "Each room that a description declares is possible when it is declared."
    private static void declaredRooms() {
        Check.due("no room", Houses.house("house;").possibleRooms(), 0);
        Check.due("one room", Houses.house(Houses.rooms(1, 5)).possibleRooms(), 1);
        Check.due("twelve rooms", Houses.house(Houses.rooms(12, 5)).possibleRooms(), 0xfff);
        GhostRooms x = Houses.house("house;room a 5 thermo;room b 5;nights 1;room c 5;nights 1;room d 5;");
        Check.due("behind nights", x.possibleRooms(), 0b1001);
        Check.due("the rooms excluded by nights", why(x, 1) + ", " + why(x, 2), "2 -1 -1, 3 0 2");
        Check.due("the room behind them", why(x, 3), "0 -1 -1");
    }

    // Term 4: "A room that is added by addRoom() is possible only if it is the first room of the house."
    private static void addedRooms() {
        GhostRooms x = new GhostRooms();
        Houses.addRoom(x, "a", 5);
        Check.due("the first room", x.possibleRooms() + ": " + why(x, 0), "1: 0 -1 -1");
        for (int room = 1; room < 12; room++) {
            Houses.addRoom(x, String.valueOf(Houses.letter(room)), 5);
            Check.due("room " + room, x.possibleRooms() + ": " + why(x, room), "1: 5 -1 -1");
        }
        GhostRooms y = Houses.house("house;");
        Houses.addRoom(y, "b", 5);
        Check.due("the first room of a described house", y.possibleRooms(), 1);
        y.undo();
        Houses.addRoom(y, "c", 5);
        Check.due("the first room again", y.possibleRooms() + ": " + why(y, 0), "1: 0 -1 -1");
        GhostRooms z = Houses.house(Houses.rooms(1, 5));
        Houses.addRoom(z, "b", 5);
        Check.due("the second room of a described house", z.possibleRooms(), 1);
    }

    // Term 4: "It costs the seance price once, regardless of the number of rooms."
    private static void priceOnce() {
        for (int price = 1; price <= 9; price++) {
            GhostRooms x = Houses.house(Houses.rooms(12, 5) + "price " + price + ";");
            x.holdSeance(0x7ff);
            Check.due("eleven rooms", x.coins() + " " + x.coinsSpent(), (50 - price) + " " + price);
            x.holdSeance(0x001);
            Check.due("one room", x.coins() + " " + x.coinsSpent(), (50 - 2 * price) + " " + 2 * price);
        }
    }

    // Term 4: "After a positive answer only the possible rooms among them remain possible."
    private static void positiveAnswer() {
        GhostRooms x = Houses.house(Houses.rooms(12, 5) + "ghost l;");
        Check.no("the lower half", x.holdSeance(0x03f));
        Check.yes("the upper rooms and impossible ones", x.holdSeance(0xf0f));
        Check.due("only the possible ones of them", x.possibleRooms(), 0xf00);
        Check.yes("one room", x.holdSeance(0x800));
        Check.due("known", x.possibleRooms(), 0x800);
    }

    // Term 4: "After a negative answer none of them is possible any more."
    private static void negativeAnswer() {
        GhostRooms x = Houses.house(Houses.rooms(12, 5) + "ghost l;");
        Check.no("one room", x.holdSeance(0x001));
        Check.due("it is gone", x.possibleRooms(), 0xffe);
        Check.no("all but the ghost's", x.holdSeance(0x7ff));
        Check.due("known", x.possibleRooms(), 0x800);
    }

    // Promise 54: "bits that stand for no existing room are ignored"
    private static void ignoredBits() {
        GhostRooms x = Houses.house(Houses.rooms(3, 5) + "ghost b;");
        Check.throwsThe(Check.STATE, "bits 3 to 31 alone", () -> x.holdSeance(~0b111));
        for (int bit = 3; bit < 32; bit++) {
            int only = 1 << bit;
            Check.throwsThe(Check.STATE, "bit " + bit + " alone", () -> x.holdSeance(only));
        }
        Check.throwsThe(Check.STATE, "every bit", () -> x.holdSeance(-1));
        Check.no("all bits but those of a and b", x.holdSeance(~0b011));
        Check.due("c is gone", x.possibleRooms(), 0b011);
        Check.yes("all bits but that of a", x.holdSeance(~0b001));
        Check.due("a is gone", x.possibleRooms(), 0b010);
    }

    // Promise 54: "if no room of the set is possible"
    private static void noRoomOfTheSet() {
        GhostRooms x = Houses.house(Houses.rooms(3, 5));
        Check.throwsThe(Check.STATE, "the empty set", () -> x.holdSeance(0));
        x.holdSeance(0b100);
        Check.throwsThe(Check.STATE, "an impossible room", () -> x.holdSeance(0b100));
        Check.yes("an impossible room and a possible one", x.holdSeance(0b101));
        Check.throwsThe(Check.STATE, "in an empty house", () -> new GhostRooms().holdSeance(1));
    }

    // Promise 54: "every possible room is in the set"
    private static void everyRoomOfTheSet() {
        GhostRooms x = Houses.house(Houses.rooms(3, 5));
        Check.throwsThe(Check.STATE, "all three", () -> x.holdSeance(0b111));
        x.holdSeance(0b100);
        Check.throwsThe(Check.STATE, "both possible ones", () -> x.holdSeance(0b011));
        Check.throwsThe(Check.STATE, "and an impossible one", () -> x.holdSeance(0b111));
        x.holdSeance(0b010);
        Check.throwsThe(Check.STATE, "the only possible one", () -> x.holdSeance(0b001));
        Check.throwsThe(Check.STATE, "a house of one room", () -> Houses.house(Houses.rooms(1, 5)).holdSeance(1));
    }

    // Promise 54: "or the price exceeds the number of coins"
    private static void priceAndCoins() {
        for (int price = 1; price <= 9; price++) {
            String text = Houses.rooms(2, 5) + "price " + price + ";coins ";
            GhostRooms poor = Houses.house(text + (price - 1) + ";");
            Check.throwsThe(Check.STATE, "one coin too few", () -> poor.holdSeance(1));
            Check.due("nothing is paid", poor.coins() + " " + poor.coinsSpent(), (price - 1) + " 0");
            GhostRooms able = Houses.house(text + price + ";");
            Check.yes("as many as the price", able.holdSeance(1));
            Check.due("all is paid", able.coins() + " " + able.coinsSpent(), "0 " + price);
        }
    }

    // Promise 35: "Returns 1 to 5; 0 if the room is possible."
    // Promise 36: "NONE otherwise"
    // Promise 37: "NONE otherwise"
    private static void reasonsOfPossibleRooms() {
        GhostRooms x = Houses.house(Houses.rooms(12, 5));
        for (int room = 0; room < 12; room++) {
            Check.due("described", why(x, room), "0 -1 -1");
        }
        x.passNights(1);
        for (int room = 0; room < 12; room++) {
            Check.due("after a night", why(x, room), "0 -1 -1");
        }
        GhostRooms y = Houses.house("house;room a 5 thermo;room b 5;room c 5;door a b 0;");
        y.holdSeance(0b001);
        Check.due("excluded", why(y, 1), "1 0 -1");
        y.passNights(1);
        Check.due("possible again", why(y, 1), "0 -1 -1");
    }

    // Term 4: "Each impossible room has an exclusion reason."
    // Promise 35: "Returns 1 to 5; 0 if the room is possible."
    // Promise 35: "Returns the exclusion reason of a room, see section 4."
    // Promise 36: "NONE otherwise"
    // Promise 36: "Returns the evidence for the exclusion reason of a room."
    // Promise 37: "NONE otherwise"
    // Promise 37: "Returns the source room of the contradicted move of a room that is excluded by a sensor."
    private static void reasonsOfImpossibleRooms() {
        boolean[] seen = new boolean[6];
        for (int number = 0; number < 120; number++) {
            GhostRooms x = Houses.some(number);
            Houses.addRoom(x, "new", number % 100);
            x.holdSeance(1 << number % (x.roomCount() - 1));
            for (int night = 0; night < 6; night++) {
                for (int room = 0; room < x.roomCount(); room++) {
                    int reason = x.exclusionReason(room);
                    boolean possible = (x.possibleRooms() >> room & 1) == 1;
                    String what = "room " + room + " of house " + number + " in night " + night;
                    Check.due(what + " is possible", possible, reason == 0);
                    Check.due(what + " has evidence", x.exclusionEvidence(room) >= 0,
                            reason == 1 || reason == 3 || reason == 4);
                    Check.due(what + " has a source", x.exclusionSource(room) >= 0, reason == 3 || reason == 4);
                    Check.yes(what + " has one of the reasons", reason >= 0 && reason <= 5);
                    seen[reason] = true;
                }
                x.passNights(1);
            }
        }
        for (int reason = 0; reason <= 5; reason++) {
            Check.yes("reason " + reason + " occurred", seen[reason]);
        }
    }

    // Term 4: "Reason 1: a seance excluded the room."
    // Promise 36: "Returns for reason 1 the night number when the seance was held"
    private static void seanceEvidence() {
        GhostRooms x = Houses.house(Houses.rooms(3, 5));
        x.holdSeance(0b100);
        Check.due("before the first night", why(x, 2), "1 0 -1");
        GhostRooms y = Houses.houseInNight(Houses.rooms(3, 5), 9999);
        y.holdSeance(0b100);
        Check.due("in night 9999", why(y, 2), "1 9999 -1");
        y.holdSeance(0b010);
        Check.due("the ghost's room has no reason", why(y, 0), "0 -1 -1");
        GhostRooms z = Houses.house(Houses.rooms(12, 5) + "ghost f;");
        z.holdSeance(1 << 5);
        for (int room = 0; room < 12; room++) {
            Check.due("every other room, a positive answer", why(z, room), room == 5 ? "0 -1 -1" : "1 0 -1");
        }
        GhostRooms w = Houses.house(Houses.rooms(12, 5) + "ghost f;nights 1;");
        w.holdSeance(0xfdf);
        for (int room = 0; room < 12; room++) {
            Check.due("every other room, a negative answer", why(w, room), room == 5 ? "0 -1 -1" : "1 1 -1");
        }
    }

    // Term 4: "Reason 2: in the latest night the room had no source room, that is, neither the room itself nor a
    //     neighbor of it was possible before that night."
    private static void noSource() {
        GhostRooms x = Houses.house(Houses.rooms(4, 5) + "door a b 0;door b c 0;door c d 0 closed;");
        x.holdSeance(0b0001);
        x.passNights(1);
        Check.due("a and b possible", x.possibleRooms(), 0b0011);
        Check.due("c is two doors away", why(x, 2), "2 -1 -1");
        Check.due("d", why(x, 3), "2 -1 -1");
        x.passNights(1);
        Check.due("c has b now", why(x, 2), "0 -1 -1");
        x.passNights(1);
        Check.due("d is behind a closed door", why(x, 3), "2 -1 -1");
    }

    // Promise 36: "for reason 3 the lowest-numbered room whose thermometer report contradicts the move"
    // Promise 37: "Returns for the reasons 3 and 4 the lowest-numbered source room"
    private static void thermometerEvidence() {
        GhostRooms x = Houses.house(Houses.rooms(11, 5) + "room l 5 thermo;ghost l;nights 1;");
        Check.due("the thermometer of the last room", why(x, 0), "3 11 0");
        Check.due("a source of its own", why(x, 10), "3 11 10");
        GhostRooms y = Houses.house("house;room a 5 thermo;" + "room l 5 thermo;door a l 0;nights 1;");
        Check.due("both rooms are reached from a", y.possibleRooms(), 0b11);
        GhostRooms z = Houses.house("house;room a 5 thermo;room b 5 thermo;nights 1;");
        Check.due("two thermometers contradict", why(z, 1), "3 0 1");
        GhostRooms w = Houses.house("house;room a 99 thermo;room b 5 thermo;nights 1;");
        Check.due("the lower one is silent", why(w, 1), "3 1 1");
    }

    // Promise 36: "for reason 4 the lowest-numbered monitored door whose report contradicts the move"
    private static void doorEvidence() {
        // in mode 1 the ghost passes door 23, between e and g, the quietest; of g's doors it is the last
        GhostRooms x = Houses.house(Houses.rooms(8, 5) + Houses.doors(23, 9) + "door e g 5;mode 1;ghost e;");
        x.setMicrophone(6, true);
        x.passNights(1);
        Check.due("the ghost", x.ghostRoom(), 6);
        Check.due("possible", x.possibleRooms(), 0b01010000);
        for (int room : new int[] {0, 1, 2, 3, 5, 7}) {
            Check.due("room " + room + " from a", why(x, room), "4 23 0");
        }
        GhostRooms y = Houses.house(Houses.rooms(3, 5) + "door a b 9;mode 1;");
        y.setMicrophone(1, true);
        y.passNights(1);
        Check.due("door 0", why(y, 2), "4 0 2");
        GhostRooms z = Houses.house(Houses.rooms(3, 5) + "door a b 4;door b c 9;mode 1;");
        z.setMicrophone(1, true);
        z.passNights(1);
        Check.due("door 0 is not monitored: the silent door 1 tells nothing of c that stays", why(z, 2), "0 -1 -1");
    }

    // Term 4: "Reason 3: in the latest night the room had a source room, and a thermometer report contradicts the move
    //     from the lowest-numbered source room."
    // Term 4: "Reason 4: likewise, no thermometer report contradicts that move, but the report for a monitored door
    //     does."
    private static void thermometerBeforeDoor() {
        String text = "house;mode 1;room a 5;room b 5 micro;room c 5 %s;door a b 9;nights 1;";
        GhostRooms x = Houses.house(String.format(text, "thermo"));
        Check.due("a thermometer and a door", why(x, 2), "3 2 2");
        GhostRooms y = Houses.house(String.format(text, ""));
        Check.due("a door alone", why(y, 2), "4 0 2");
    }

    // Term 4: "the move from the lowest-numbered source room"
    private static void lowestSourceDecides() {
        // from b the silent door contradicts, from d the thermometer: b is the lower source of d
        GhostRooms x = Houses.house("house;room a 5;room b 5;room c 5;room d 5 thermo;door d b 9;nights 1;");
        Check.due("without a microphone d is reached from b", x.possibleRooms(), 0b1111);
        x.setMicrophone(3, true);
        x.passNights(1);
        Check.due("b is reached from b, d from nowhere", x.possibleRooms(), 0b0111);
        Check.due("d from b", why(x, 3), "4 0 1");
        GhostRooms y = Houses.house("house;room a 5;room d 5 thermo micro;room b 5;door d b 9;nights 1;");
        Check.due("as the lower source itself it names its thermometer", why(y, 1), "3 1 1");
    }

    // Term 4: "Reason 5: the room was added by addRoom() and no night has passed since then."
    private static void addedRoomReason() {
        GhostRooms x = Houses.house(Houses.rooms(2, 5) + "nights 3;");
        Houses.addRoom(x, "c", 5);
        x.addDoor(0, 2, 1);
        x.setMode(1);
        Houses.script(x, "earn 1;ask b;");
        Check.due("no night since then", why(x, 2), "5 -1 -1");
        x.passNights(1);
        Check.due("one night: a neighbor", why(x, 2), "0 -1 -1");
        x.undo();
        Check.due("the night undone", why(x, 2), "5 -1 -1");
        x.setDoorOpen(0, false);
        x.passNights(1);
        Check.due("one night: no source", why(x, 2), "2 -1 -1");
    }

    // Term 4: "A seance does not change the reason of a room that is already impossible."
    private static void seanceKeepsReasons() {
        GhostRooms x = Houses.house("house;room a 5 micro;room b 9;room c 5;room d 5 thermo;room e 5;"
                + "door a b 9;door b e 0;nights 1;");
        Houses.addRoom(x, "f", 5);
        x.holdSeance(0b000100);
        Check.due("before", why(x, 2) + ", " + why(x, 3) + ", " + why(x, 5), "1 1 -1, 3 3 3, 5 -1 -1");
        x.passNights(1);
        Houses.addRoom(x, "g", 5);
        String before = why(x, 2) + ", " + why(x, 3) + ", " + why(x, 5) + ", " + why(x, 6);
        Check.due("before", before, "2 -1 -1, 2 -1 -1, 2 -1 -1, 5 -1 -1");
        Check.yes("a positive answer", x.holdSeance(0b1111101));
        Check.due("the reasons stay", why(x, 2) + ", " + why(x, 3) + ", " + why(x, 5) + ", " + why(x, 6), before);
        Check.no("a negative answer", x.holdSeance(0b1111100));
        Check.due("the reasons stay", why(x, 2) + ", " + why(x, 3) + ", " + why(x, 5) + ", " + why(x, 6), before);
        Check.due("the rooms excluded now", why(x, 1) + ", " + why(x, 4), "1 2 -1, 1 2 -1");
    }

    // Term 4: "It is determined when a seance excludes the room, and anew for every impossible room in every night."
    private static void reasonsAnew() {
        GhostRooms x = Houses.house("house;room a 5;room b 99;room c 99;door a b 9;door b c 9;");
        x.holdSeance(0b001);
        Check.due("by the seance", why(x, 1) + ", " + why(x, 2), "1 0 -1, 1 0 -1");
        x.setMicrophone(0, true);
        x.passNights(1);
        Check.due("a silent door; no source", why(x, 1) + ", " + why(x, 2), "4 0 0, 2 -1 -1");
        x.setMicrophone(0, false);
        Check.due("only a night renews them", why(x, 1) + ", " + why(x, 2), "4 0 0, 2 -1 -1");
        x.passNights(1);
        Check.due("b is possible", why(x, 1) + ", " + why(x, 2), "0 -1 -1, 2 -1 -1");
        x.setThermometer(0, true);
        x.passNights(1);
        Check.due("c from b against the thermometer", why(x, 1) + ", " + why(x, 2), "0 -1 -1, 3 0 1");
        x.passNights(50);
        Check.due("as in every night", why(x, 1) + ", " + why(x, 2), "0 -1 -1, 3 0 1");
    }

    // Promise 53: "if nights is out of range"
    // Promise 53: "`nights`: 1 to 50"
    private static void nights() {
        for (int count : new int[] {Integer.MIN_VALUE, -1, 0, 1, 2, 49, 50, 51, Integer.MAX_VALUE}) {
            GhostRooms x = Houses.house(Houses.rooms(2, 5));
            boolean taken = count >= 1 && count <= 50;
            Check.due("nights " + count, Check.outcome(() -> x.passNights(count)),
                    taken ? 2 : "IllegalArgumentException");
            Check.due("night number", x.nightNumber(), taken ? count : 0);
            Check.due("coldness", x.coldness(0), taken ? 5 + count : 5);
        }
    }

    // Promise 53: "or the night number would exceed 9999"
    private static void lastNight() {
        GhostRooms x = Houses.houseInNight(Houses.rooms(2, 5), 9949);
        Check.due("fifty nights to 9999", x.passNights(50), 2);
        Check.due("night", x.nightNumber(), 9999);
        Check.throwsThe(Check.STATE, "one night beyond", () -> x.passNights(1));
        Check.throwsThe(Check.STATE, "fifty nights beyond", () -> x.passNights(50));
        x.undo();
        x.passNights(1);
        Check.throwsThe(Check.STATE, "fifty nights from 9950", () -> x.passNights(50));
        Check.due("the nights stay", x.nightNumber() + " " + x.coldness(0), "9950 99");
        x.passNights(48);
        Check.throwsThe(Check.STATE, "two nights from 9998", () -> x.passNights(2));
        Check.due("one night from 9998", x.passNights(1), 2);
        Check.due("night", x.nightNumber(), 9999);
    }

    // Promise 53: "if there is no room"
    private static void nightsWithoutRoom() {
        GhostRooms x = new GhostRooms();
        Check.throwsThe(Check.STATE, "no room", () -> x.passNights(1));
        Check.throwsThe(Check.STATE, "no room", () -> x.passNights(50));
        Check.due("no night has passed", x.nightNumber(), 0);
        Houses.addRoom(x, "a", 5);
        Check.due("one room", x.passNights(1), 1);
        x.undo();
        x.undo();
        Check.throwsThe(Check.STATE, "no room again", () -> x.passNights(1));
    }

    // Promise 53: "Returns the number of possible rooms afterwards."
    private static void possibleRoomsReturned() {
        Check.due("one of one", Houses.house(Houses.rooms(1, 5)).passNights(1), 1);
        Check.due("twelve of twelve", Houses.house(Houses.rooms(12, 5)).passNights(1), 12);
        Check.due("one of twelve", Houses.house("house;room l 5 thermo;" + Houses.rooms(11, 5).substring(6))
                .passNights(1), 1);
    }
}
