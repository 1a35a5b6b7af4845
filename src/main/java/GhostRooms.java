/** A ghost that moves through a house at night, and the set of rooms in which it can be. */
public final class GhostRooms {
    public static final int NONE = -1;

    private static final int MOST_ROOMS = 12;
    private static final int MOST_DOORS = 24;
    private static final int MOST_COLDNESS = 99;
    private static final int MOST_NOISE = 9;
    private static final int MOST_NIGHTS = 50;
    private static final int LAST_NIGHT = 9999;
    private static final int MOST_LETTERS = 8;
    private static final int MOST_BYTES = 600;
    private static final int FEED_BYTES = 20;
    private static final int CALM_NIGHTS = 10;
    // name, space, two digits, the four signs and the line feed
    private static final int MOST_LINE_BYTES = MOST_LETTERS + 8;

    private final House house;
    // predictions and descriptions work here, so that the house itself stays as it is
    private final House draft;
    private final House saved;
    private boolean hasSaved;
    private final Night night;
    private final Actions actions;
    private final History history;
    private final Paths paths;
    private final Paths otherPaths;
    private final Input input;
    private final Tokens tokens;
    private final Description description;
    private final Script script;
    private final Row output;
    private int outputLength;

    public GhostRooms() {
        House freshHouse = new House();
        House freshDraft = new House();
        Night freshNight = new Night();
        Actions freshActions = new Actions(freshHouse, freshNight);
        Input freshInput = new Input();
        Tokens freshTokens = new Tokens(freshInput);
        house = freshHouse;
        draft = freshDraft;
        saved = new House();
        night = freshNight;
        actions = freshActions;
        history = new History();
        paths = new Paths();
        otherPaths = new Paths();
        input = freshInput;
        tokens = freshTokens;
        description = new Description(freshTokens, freshDraft, freshNight);
        script = new Script(freshTokens, freshHouse, freshActions);
        output = new Row(MOST_ROOMS * MOST_LINE_BYTES);
    }

    // ---- input

    public int feed(int a, int b, int c, int d, int e) throws IllegalStateException {
        if (input.length + FEED_BYTES > MOST_BYTES) {
            throw new IllegalStateException("the input buffer holds 600 bytes");
        }
        input.append(a);
        input.append(b);
        input.append(c);
        input.append(d);
        input.append(e);
        return input.length;
    }

    public int truncate(int length) throws IllegalArgumentException {
        if (length < 0 || length > input.length) {
            throw new IllegalArgumentException("length is 0 to the current length");
        }
        input.length = length;
        return length;
    }

    public int readText() throws IllegalArgumentException {
        description.read();
        house.copyFrom(draft);
        history.forget();
        return house.roomCount;
    }

    public int runScript() throws IllegalArgumentException {
        script.parse();
        history.prepare(house);
        int executed = script.run();
        history.remember();
        return executed;
    }

    public int errorCode() {
        return tokens.errorCode;
    }

    public int errorOffset() {
        return tokens.errorOffset;
    }

    // ---- settings and counters

    public int mode() {
        return house.settings.get(Settings.MODE);
    }

    public int chill() {
        return house.settings.get(Settings.CHILL);
    }

    public int hearingThreshold() {
        return house.settings.get(Settings.HEARING);
    }

    public int seancePrice() {
        return house.settings.get(Settings.PRICE);
    }

    public int randomState() {
        return house.settings.get(Settings.RANDOM);
    }

    public int coins() {
        return house.settings.get(Settings.COINS);
    }

    public int coinsSpent() {
        return house.coinsSpent;
    }

    public int nightNumber() {
        return house.nightNumber;
    }

    public int ghostMoves() {
        return house.ghostMoves;
    }

    // ---- rooms and doors

    public int roomCount() {
        return house.roomCount;
    }

    public int doorCount() {
        return house.doorCount;
    }

    public int ghostRoom() {
        return house.ghost;
    }

    public int possibleRooms() {
        return house.possible;
    }

    public int nameByte(int room, int index) throws IndexOutOfBoundsException {
        house.requireRoom(room);
        return letterAt(house.nameOf(room), index);
    }

    public int findRoom() {
        return house.roomNamed(input.wholeName());
    }

    public int coldness(int room) throws IndexOutOfBoundsException {
        house.requireRoom(room);
        return house.coldness.get(room);
    }

    public boolean hasThermometer(int room) throws IndexOutOfBoundsException {
        house.requireRoom(room);
        return contains(house.thermometers, room);
    }

    public boolean hasMicrophone(int room) throws IndexOutOfBoundsException {
        house.requireRoom(room);
        return contains(house.microphones, room);
    }

    public int neighbors(int room) throws IndexOutOfBoundsException {
        house.requireRoom(room);
        return house.neighborsOf(room);
    }

    public int roomByColdness(int rank) {
        return house.roomAtRank(rank);
    }

    public int lowRoom(int door) throws IndexOutOfBoundsException {
        house.requireDoor(door);
        return house.lowRooms.get(door);
    }

    public int highRoom(int door) throws IndexOutOfBoundsException {
        house.requireDoor(door);
        return house.highRooms.get(door);
    }

    public int noise(int door) throws IndexOutOfBoundsException {
        house.requireDoor(door);
        return house.noises.get(door);
    }

    public boolean isOpen(int door) throws IndexOutOfBoundsException {
        house.requireDoor(door);
        return contains(house.openDoors, door);
    }

    public boolean isMonitored(int door) throws IndexOutOfBoundsException {
        house.requireDoor(door);
        return contains(house.monitoredDoors(), door);
    }

    public int doorBetween(int room, int other) throws IndexOutOfBoundsException {
        house.requireRoom(room);
        house.requireRoom(other);
        return house.doorOf(room, other);
    }

    public int quietestPath(int room, int other) throws IndexOutOfBoundsException {
        house.requireRoom(room);
        house.requireRoom(other);
        paths.measure(house, house.openDoors);
        return paths.between(room, other);
    }

    // ---- explanations

    public int exclusionReason(int room) throws IndexOutOfBoundsException {
        house.requireRoom(room);
        return house.reasons.get(room);
    }

    public int exclusionEvidence(int room) throws IndexOutOfBoundsException {
        house.requireRoom(room);
        return house.evidence.get(room);
    }

    public int exclusionSource(int room) throws IndexOutOfBoundsException {
        house.requireRoom(room);
        return house.sources.get(room);
    }

    public int violations() {
        int count = 0;
        if (house.roomCount > 0 && !contains(house.possible, house.ghost)) {
            count++;
        }
        paths.measure(house, house.openDoors);
        for (int room = 0; room < house.roomCount; room++) {
            for (int other = room + 1; other < house.roomCount; other++) {
                if (paths.between(room, other) != paths.between(other, room)) {
                    count++;
                }
            }
        }
        return count;
    }

    public double meanColdness() {
        int sum = 0;
        for (int room = 0; room < house.roomCount; room++) {
            sum += house.coldness.get(room);
        }
        return house.roomCount > 0 ? (double) sum / (double) house.roomCount : 0.0;
    }

    public float possibleFraction() {
        int possible = Integer.bitCount(house.possible);
        return house.roomCount > 0 ? (float) possible / (float) house.roomCount : 0.0f;
    }

    // ---- predictions, which change nothing and may go beyond night 9999

    public int ghostRoomAfter(int nights) throws IllegalArgumentException {
        requireRange(nights, 0, MOST_NIGHTS);
        predict(nights);
        return draft.ghost;
    }

    public int possibleRoomsAfter(int nights) throws IllegalArgumentException {
        requireRange(nights, 0, MOST_NIGHTS);
        predict(nights);
        return draft.possible;
    }

    public int nightsUntilKnown() {
        draft.copyFrom(house);
        for (int nights = 0; nights <= MOST_NIGHTS; nights++) {
            if (Integer.bitCount(draft.possible) == 1) {
                return nights;
            }
            night.pass(draft);
        }
        return NONE;
    }

    public int bestThermometerRoom() {
        int best = NONE;
        int fewest = MOST_ROOMS + 1;
        for (int room = 0; room < house.roomCount; room++) {
            if (!contains(house.thermometers, room)) {
                draft.copyFrom(house);
                draft.thermometers |= bit(room);
                night.pass(draft);
                int possible = Integer.bitCount(draft.possible);
                if (possible < fewest) {
                    fewest = possible;
                    best = room;
                }
            }
        }
        return best;
    }

    public int calmestMode() {
        int best = 0;
        int fewest = CALM_NIGHTS + 1;
        for (int candidate = 0; candidate <= Settings.most(Settings.MODE); candidate++) {
            draft.copyFrom(house);
            draft.settings.set(Settings.MODE, candidate);
            for (int nights = 0; nights < CALM_NIGHTS; nights++) {
                night.pass(draft);
            }
            int moves = draft.ghostMoves - house.ghostMoves;
            if (moves < fewest) {
                fewest = moves;
                best = candidate;
            }
        }
        return best;
    }

    public int mostImportantDoor() {
        int best = NONE;
        int most = -1;
        paths.measure(house, house.openDoors);
        for (int door = 0; door < house.doorCount; door++) {
            if (contains(house.openDoors, door)) {
                otherPaths.measure(house, house.openDoors & ~bit(door));
                int changes = paths.differences(otherPaths, house.roomCount);
                if (changes > most) {
                    most = changes;
                    best = door;
                }
            }
        }
        return best;
    }

    // ---- changes, all undoable

    public int addRoom(int coldness) throws IllegalArgumentException, IllegalStateException {
        history.prepare(house);
        int room = actions.buildRoom(input.wholeName(), coldness);
        history.remember();
        input.length = 0;
        return room;
    }

    public int addDoor(int room, int other, int noise)
            throws IndexOutOfBoundsException, IllegalArgumentException, IllegalStateException {
        history.prepare(house);
        int door = actions.buildDoor(room, other, noise);
        history.remember();
        return door;
    }

    public int setDoorOpen(int door, boolean open) throws IndexOutOfBoundsException, IllegalStateException {
        history.prepare(house);
        int openDoors = actions.turnDoor(door, open);
        history.remember();
        return openDoors;
    }

    public int setThermometer(int room, boolean present) throws IndexOutOfBoundsException, IllegalStateException {
        history.prepare(house);
        int thermometers = actions.fitThermometer(room, present);
        history.remember();
        return thermometers;
    }

    public int setMicrophone(int room, boolean present) throws IndexOutOfBoundsException, IllegalStateException {
        history.prepare(house);
        int microphones = actions.fitMicrophone(room, present);
        history.remember();
        return microphones;
    }

    public int warm(int room, int amount)
            throws IndexOutOfBoundsException, IllegalArgumentException, IllegalStateException {
        history.prepare(house);
        int coldnessAfter = actions.heatRoom(room, amount);
        history.remember();
        return coldnessAfter;
    }

    public int passNights(int nights) throws IllegalArgumentException, IllegalStateException {
        history.prepare(house);
        int possible = actions.sleep(nights);
        history.remember();
        return possible;
    }

    public boolean holdSeance(int rooms) throws IllegalStateException {
        history.prepare(house);
        boolean answer = actions.ask(rooms);
        history.remember();
        return answer;
    }

    public int earnCoins(int amount) throws IllegalArgumentException, IllegalStateException {
        history.prepare(house);
        int coinsAfter = actions.earn(amount);
        history.remember();
        return coinsAfter;
    }

    public int setMode(int value) throws IllegalArgumentException {
        return changeSetting(Settings.MODE, value);
    }

    public int setChill(int value) throws IllegalArgumentException {
        return changeSetting(Settings.CHILL, value);
    }

    public int setHearingThreshold(int value) throws IllegalArgumentException {
        return changeSetting(Settings.HEARING, value);
    }

    public int setSeancePrice(int value) throws IllegalArgumentException {
        return changeSetting(Settings.PRICE, value);
    }

    public int setRandomState(int value) throws IllegalArgumentException {
        return changeSetting(Settings.RANDOM, value);
    }

    // ---- undo, output, saved state

    public int undo() throws IllegalStateException {
        return history.takeBack(house);
    }

    public int printReport() {
        outputLength = 0;
        for (int rank = 0; rank < house.roomCount; rank++) {
            printRoom(house.roomAtRank(rank));
        }
        return outputLength;
    }

    public int outputByte(int index) throws IndexOutOfBoundsException {
        if (index < 0 || index >= outputLength) {
            throw new IndexOutOfBoundsException("the output has no such byte");
        }
        return output.get(index);
    }

    public int saveState() {
        saved.copyFrom(house);
        hasSaved = true;
        return house.nightNumber;
    }

    public int restoreState() throws IllegalStateException {
        if (!hasSaved) {
            throw new IllegalStateException("no state is saved");
        }
        house.copyFrom(saved);
        history.forget();
        return house.nightNumber;
    }

    // ---- helpers

    private void predict(int nights) {
        draft.copyFrom(house);
        for (int passed = 0; passed < nights; passed++) {
            night.pass(draft);
        }
    }

    private int changeSetting(int setting, int value) {
        history.prepare(house);
        int previous = actions.change(setting, value);
        history.remember();
        return previous;
    }

    private void printRoom(int room) {
        long name = house.nameOf(room);
        int length = letterCount(name);
        for (int i = 0; i < length; i++) {
            print(letterAt(name, i));
        }
        print(' ');
        int cold = house.coldness.get(room);
        if (cold >= 10) {
            print('0' + cold / 10);
        }
        print('0' + cold % 10);
        printIf(contains(house.thermometers, room), 't');
        printIf(contains(house.microphones, room), 'm');
        printIf(contains(house.possible, room), '?');
        printIf(room == house.ghost, '!');
        print('\n');
    }

    private void printIf(boolean wanted, int value) {
        if (wanted) {
            print(value);
        }
    }

    private void print(int value) {
        output.set(outputLength, value);
        outputLength++;
    }

    private static void requireRange(int value, int least, int most) {
        if (value < least || value > most) {
            throw new IllegalArgumentException("the number is out of range");
        }
    }

    // the set of one room or door; no room or door gives the empty set
    private static int bit(int index) {
        return index >= 0 && index < MOST_DOORS ? 1 << index : 0;
    }

    private static boolean contains(int set, int index) {
        return index >= 0 && index < MOST_DOORS && (set & (1 << index)) != 0;
    }

    private static int lowest(int set) {
        for (int index = 0; index < MOST_DOORS; index++) {
            if (contains(set, index)) {
                return index;
            }
        }
        return NONE;
    }

    private static boolean isLetter(int value) {
        return value >= 'a' && value <= 'z';
    }

    private static boolean isDigit(int value) {
        return value >= '0' && value <= '9';
    }

    // Names are kept as numbers, eight bits a letter, so that they cost no objects; 0 is no name.

    private static int letterCount(long name) {
        int count = 0;
        for (int i = 0; i < MOST_LETTERS; i++) {
            if ((name >>> (8 * i)) != 0) {
                count++;
            }
        }
        return count;
    }

    private static int letterAt(long name, int index) {
        int length = letterCount(name);
        if (index < 0 || index >= length) {
            return NONE;
        }
        return (int) (name >>> (8 * (length - 1 - index))) & 255;
    }

    /** Numbers under an index; outside of its size it reads as 0 and takes nothing. */
    private static final class Row {
        private final int[] cells;

        Row(int size) {
            cells = new int[size > 0 ? size : 0];
        }

        int get(int index) {
            return index >= 0 && index < cells.length ? cells[index] : 0;
        }

        void set(int index, int value) {
            if (index >= 0 && index < cells.length) {
                cells[index] = value;
            }
        }

        void fill(int value) {
            for (int i = 0; i < cells.length; i++) {
                cells[i] = value;
            }
        }

        void copyFrom(Row other) {
            for (int i = 0; i < cells.length && i < other.cells.length; i++) {
                cells[i] = other.cells[i];
            }
        }
    }

    /** The numbers that stand for the settings, and their limits. */
    private static final class Settings {
        static final int MODE = 0;
        static final int CHILL = 1;
        static final int HEARING = 2;
        static final int PRICE = 3;
        static final int RANDOM = 4;
        static final int COINS = 5;
        static final int COUNT = 6;

        private static final int[] LEAST = {0, 1, 0, 1, 0, 0};
        private static final int[] MOST = {2, 9, 9, 9, 15, 999};
        private static final int[] INITIAL = {0, 1, 5, 2, 7, 50};

        static int least(int setting) {
            return setting >= 0 && setting < LEAST.length ? LEAST[setting] : 0;
        }

        static int most(int setting) {
            return setting >= 0 && setting < MOST.length ? MOST[setting] : 0;
        }

        static int initial(int setting) {
            return setting >= 0 && setting < INITIAL.length ? INITIAL[setting] : 0;
        }

        static int named(Tokens tokens) {
            if (tokens.isWord("mode")) {
                return MODE;
            }
            if (tokens.isWord("chill")) {
                return CHILL;
            }
            if (tokens.isWord("hearing")) {
                return HEARING;
            }
            if (tokens.isWord("price")) {
                return PRICE;
            }
            if (tokens.isWord("random")) {
                return RANDOM;
            }
            return tokens.isWord("coins") ? COINS : NONE;
        }
    }

    /** All that a saved state holds: the house, the settings and the counters. */
    private static final class House {
        private final long[] names = new long[MOST_ROOMS];
        final Row coldness = new Row(MOST_ROOMS);
        final Row reasons = new Row(MOST_ROOMS);
        final Row evidence = new Row(MOST_ROOMS);
        final Row sources = new Row(MOST_ROOMS);
        final Row lowRooms = new Row(MOST_DOORS);
        final Row highRooms = new Row(MOST_DOORS);
        final Row noises = new Row(MOST_DOORS);
        final Row settings = new Row(Settings.COUNT);
        int roomCount;
        int doorCount;
        int openDoors;
        int thermometers;
        int microphones;
        int possible;
        int ghost;
        int nightNumber;
        int ghostMoves;
        int coinsSpent;

        House() {
            clear();
        }

        void clear() {
            roomCount = 0;
            doorCount = 0;
            openDoors = 0;
            thermometers = 0;
            microphones = 0;
            possible = 0;
            ghost = NONE;
            nightNumber = 0;
            ghostMoves = 0;
            coinsSpent = 0;
            for (int setting = 0; setting < Settings.COUNT; setting++) {
                settings.set(setting, Settings.initial(setting));
            }
        }

        void copyFrom(House other) {
            for (int i = 0; i < names.length && i < other.names.length; i++) {
                names[i] = other.names[i];
            }
            coldness.copyFrom(other.coldness);
            reasons.copyFrom(other.reasons);
            evidence.copyFrom(other.evidence);
            sources.copyFrom(other.sources);
            lowRooms.copyFrom(other.lowRooms);
            highRooms.copyFrom(other.highRooms);
            noises.copyFrom(other.noises);
            settings.copyFrom(other.settings);
            roomCount = other.roomCount;
            doorCount = other.doorCount;
            openDoors = other.openDoors;
            thermometers = other.thermometers;
            microphones = other.microphones;
            possible = other.possible;
            ghost = other.ghost;
            nightNumber = other.nightNumber;
            ghostMoves = other.ghostMoves;
            coinsSpent = other.coinsSpent;
        }

        void requireRoom(int room) {
            if (room < 0 || room >= roomCount) {
                throw new IndexOutOfBoundsException("there is no such room");
            }
        }

        void requireDoor(int door) {
            if (door < 0 || door >= doorCount) {
                throw new IndexOutOfBoundsException("there is no such door");
            }
        }

        long nameOf(int room) {
            return room >= 0 && room < names.length ? names[room] : 0;
        }

        int roomNamed(long name) {
            for (int room = 0; room < roomCount; room++) {
                if (nameOf(room) == name) {
                    return room;
                }
            }
            return NONE;
        }

        int roomAtRank(int rank) {
            for (int room = 0; room < roomCount; room++) {
                if (rankOf(room) == rank) {
                    return room;
                }
            }
            return NONE;
        }

        private int rankOf(int room) {
            int cold = coldness.get(room);
            int rank = 0;
            for (int other = 0; other < roomCount; other++) {
                int otherCold = coldness.get(other);
                if (otherCold > cold || (otherCold == cold && other < room)) {
                    rank++;
                }
            }
            return rank;
        }

        int appendRoom(long name, int cold, boolean isPossible) {
            int room = roomCount;
            if (room >= 0 && room < names.length) {
                names[room] = name;
            }
            roomCount++;
            coldness.set(room, cold);
            if (isPossible) {
                possible |= bit(room);
            }
            exclude(room, isPossible ? 0 : 5, NONE, NONE);
            if (room == 0) {
                ghost = 0;
            }
            return room;
        }

        int appendDoor(int room, int other, int noise) {
            int door = doorCount;
            doorCount++;
            lowRooms.set(door, Math.min(room, other));
            highRooms.set(door, Math.max(room, other));
            noises.set(door, noise);
            openDoors |= bit(door);
            return door;
        }

        // reason 0 stands for a room that is possible
        void exclude(int room, int reason, int why, int source) {
            reasons.set(room, reason);
            evidence.set(room, why);
            sources.set(room, source);
        }

        int doorOf(int room, int other) {
            int low = Math.min(room, other);
            int high = Math.max(room, other);
            for (int door = 0; door < doorCount; door++) {
                if (lowRooms.get(door) == low && highRooms.get(door) == high) {
                    return door;
                }
            }
            return NONE;
        }

        int neighborsOf(int room) {
            int rooms = 0;
            for (int door = 0; door < doorCount; door++) {
                if (contains(openDoors, door)) {
                    int low = lowRooms.get(door);
                    int high = highRooms.get(door);
                    if (low == room) {
                        rooms |= bit(high);
                    } else if (high == room) {
                        rooms |= bit(low);
                    }
                }
            }
            return rooms;
        }

        int monitoredDoors() {
            int threshold = settings.get(Settings.HEARING);
            int doors = 0;
            for (int door = 0; door < doorCount; door++) {
                int ends = bit(lowRooms.get(door)) | bit(highRooms.get(door));
                if (noises.get(door) >= threshold && (microphones & ends) != 0) {
                    doors |= bit(door);
                }
            }
            return doors;
        }

        // a thermometer in a room that can't get colder has nothing to report
        int reportingThermometers() {
            int rooms = thermometers;
            for (int room = 0; room < roomCount; room++) {
                if (coldness.get(room) >= MOST_COLDNESS) {
                    rooms &= ~bit(room);
                }
            }
            return rooms;
        }
    }

    /**
     * Lets one night pass; its fields are what that night's sensors report.
     * The room that the ghost left and the door that it passed are sets, the door's empty if it stayed.
     */
    private static final class Night {
        private int before;
        private int leftRoom;
        private int passedDoor;
        private int thermometers;
        private int monitored;

        void pass(House house) {
            house.nightNumber++;
            if (house.roomCount == 0) {
                return;
            }
            before = house.possible;
            int from = house.ghost;
            int to = destination(house);
            leftRoom = bit(from);
            passedDoor = bit(house.doorOf(from, to));
            thermometers = house.reportingThermometers();
            monitored = house.monitoredDoors();
            int colder = house.coldness.get(from) + house.settings.get(Settings.CHILL);
            house.coldness.set(from, Math.min(colder, MOST_COLDNESS));
            house.ghost = to;
            if (to != from) {
                house.ghostMoves++;
            }
            house.possible = roomsAfter(house);
            for (int room = 0; room < house.roomCount; room++) {
                explain(house, room);
            }
        }

        private static int destination(House house) {
            int mode = house.settings.get(Settings.MODE);
            if (mode == 0) {
                return warmestRoom(house, house.neighborsOf(house.ghost));
            }
            return mode == 1 ? quietestRoom(house) : randomRoom(house, house.neighborsOf(house.ghost));
        }

        private static int warmestRoom(House house, int around) {
            int best = house.ghost;
            for (int room = 0; room < house.roomCount; room++) {
                if (contains(around, room) && house.coldness.get(room) < house.coldness.get(best)) {
                    best = room;
                }
            }
            return best;
        }

        private static int quietestRoom(House house) {
            int best = house.ghost;
            int least = MOST_NOISE + 1;
            for (int door = 0; door < house.doorCount; door++) {
                int low = house.lowRooms.get(door);
                int high = house.highRooms.get(door);
                if (contains(house.openDoors, door) && (low == house.ghost || high == house.ghost)) {
                    int other = low == house.ghost ? high : low;
                    int noise = house.noises.get(door);
                    if (noise < least || (noise == least && other < best)) {
                        least = noise;
                        best = other;
                    }
                }
            }
            return best;
        }

        private static int randomRoom(House house, int around) {
            int state = (5 * house.settings.get(Settings.RANDOM) + 3) & 15;
            house.settings.set(Settings.RANDOM, state);
            int ways = Integer.bitCount(around);
            if (ways <= 0) {
                return house.ghost;
            }
            int left = state % (ways + 1);
            for (int room = 0; room < house.roomCount && left > 0; room++) {
                if (contains(around, room)) {
                    left--;
                    if (left == 0) {
                        return room;
                    }
                }
            }
            return house.ghost;
        }

        // every move is a stay or goes through an open door, so no pairs of rooms need be tried
        private int roomsAfter(House house) {
            int after = 0;
            for (int room = 0; room < house.roomCount; room++) {
                after |= fits(bit(room), 0) ? bit(room) : 0;
            }
            for (int door = 0; door < house.doorCount; door++) {
                int way = bit(door) & house.openDoors;
                if (way != 0) {
                    int low = bit(house.lowRooms.get(door));
                    int high = bit(house.highRooms.get(door));
                    after |= fits(low, way) ? high : 0;
                    after |= fits(high, way) ? low : 0;
                }
            }
            return after;
        }

        private boolean fits(int source, int door) {
            return (before & source) != 0 && wrongThermometers(source) == 0 && wrongDoors(door) == 0;
        }

        // the rooms whose thermometers would have reported otherwise
        private int wrongThermometers(int source) {
            return thermometers & (source ^ leftRoom);
        }

        // the doors about which otherwise would have been reported
        private int wrongDoors(int door) {
            return monitored & (door ^ passedDoor);
        }

        private void explain(House house, int room) {
            if (contains(house.possible, room)) {
                house.exclude(room, 0, NONE, NONE);
                return;
            }
            int source = lowest(before & (bit(room) | house.neighborsOf(room)));
            if (source == NONE) {
                house.exclude(room, 2, NONE, NONE);
                return;
            }
            int contradicting = wrongThermometers(bit(source));
            if (contradicting != 0) {
                house.exclude(room, 3, lowest(contradicting), source);
                return;
            }
            int door = bit(house.doorOf(source, room));
            house.exclude(room, 4, lowest(wrongDoors(door)), source);
        }
    }

    /** The undoable changes: each first refuses what the document refuses, then changes the house. */
    private static final class Actions {
        private static final int MOST_AMOUNT = 99;

        private final House house;
        private final Night night;

        Actions(House house, Night night) {
            this.house = house;
            this.night = night;
        }

        int buildRoom(long name, int cold) {
            requireRange(cold, 0, MOST_COLDNESS);
            if (name == 0) {
                throw new IllegalStateException("a name is 1 to 8 letters");
            }
            if (house.roomNamed(name) != NONE) {
                throw new IllegalStateException("a room has this name");
            }
            if (house.roomCount >= MOST_ROOMS) {
                throw new IllegalStateException("there are 12 rooms");
            }
            return house.appendRoom(name, cold, house.roomCount == 0);
        }

        int buildDoor(int room, int other, int noise) {
            house.requireRoom(room);
            house.requireRoom(other);
            requireRange(noise, 0, MOST_NOISE);
            if (room == other) {
                throw new IllegalArgumentException("a door connects two rooms");
            }
            if (house.doorOf(room, other) != NONE) {
                throw new IllegalStateException("a door connects both rooms already");
            }
            if (house.doorCount >= MOST_DOORS) {
                throw new IllegalStateException("there are 24 doors");
            }
            return house.appendDoor(room, other, noise);
        }

        int turnDoor(int door, boolean open) {
            house.requireDoor(door);
            house.openDoors = switched(house.openDoors, door, open);
            return Integer.bitCount(house.openDoors);
        }

        int fitThermometer(int room, boolean present) {
            house.requireRoom(room);
            house.thermometers = switched(house.thermometers, room, present);
            return Integer.bitCount(house.thermometers);
        }

        int fitMicrophone(int room, boolean present) {
            house.requireRoom(room);
            house.microphones = switched(house.microphones, room, present);
            return Integer.bitCount(house.microphones);
        }

        private static int switched(int set, int index, boolean on) {
            if (contains(set, index) == on) {
                throw new IllegalStateException("it already is in that state");
            }
            return set ^ bit(index);
        }

        int heatRoom(int room, int amount) {
            house.requireRoom(room);
            requireRange(amount, 1, MOST_AMOUNT);
            int cold = house.coldness.get(room);
            if (amount > cold) {
                throw new IllegalStateException("the room is not that cold");
            }
            house.coldness.set(room, cold - amount);
            return cold - amount;
        }

        int sleep(int nights) {
            requireRange(nights, 1, MOST_NIGHTS);
            if (house.roomCount == 0) {
                throw new IllegalStateException("there is no room");
            }
            if (house.nightNumber + nights > LAST_NIGHT) {
                throw new IllegalStateException("the nights end with night 9999");
            }
            for (int passed = 0; passed < nights; passed++) {
                night.pass(house);
            }
            return Integer.bitCount(house.possible);
        }

        boolean ask(int rooms) {
            int price = house.settings.get(Settings.PRICE);
            int coins = house.settings.get(Settings.COINS);
            if ((house.possible & rooms) == 0) {
                throw new IllegalStateException("no room of the set is possible");
            }
            if ((house.possible & ~rooms) == 0) {
                throw new IllegalStateException("every possible room is in the set");
            }
            if (price > coins) {
                throw new IllegalStateException("there are not enough coins");
            }
            house.settings.set(Settings.COINS, coins - price);
            house.coinsSpent += price;
            boolean answer = contains(rooms, house.ghost);
            int excluded = house.possible & (answer ? ~rooms : rooms);
            house.possible &= ~excluded;
            for (int room = 0; room < house.roomCount; room++) {
                if (contains(excluded, room)) {
                    house.exclude(room, 1, house.nightNumber, NONE);
                }
            }
            return answer;
        }

        int earn(int amount) {
            requireRange(amount, 1, MOST_AMOUNT);
            int coins = house.settings.get(Settings.COINS) + amount;
            if (coins > Settings.most(Settings.COINS)) {
                throw new IllegalStateException("at most 999 coins");
            }
            house.settings.set(Settings.COINS, coins);
            return coins;
        }

        int change(int setting, int value) {
            requireRange(value, Settings.least(setting), Settings.most(setting));
            int previous = house.settings.get(setting);
            house.settings.set(setting, value);
            return previous;
        }
    }

    /** The quietest paths between all rooms of a house. */
    private static final class Paths {
        // longer than any path, and far from overflow when two are added
        private static final int FAR = 1000000;

        private final Row lengths = new Row(MOST_ROOMS * MOST_ROOMS);

        void measure(House house, int doors) {
            lengths.fill(FAR);
            for (int room = 0; room < house.roomCount; room++) {
                lengths.set(place(room, room), 0);
            }
            for (int door = 0; door < house.doorCount; door++) {
                if (contains(doors, door)) {
                    int low = house.lowRooms.get(door);
                    int high = house.highRooms.get(door);
                    lengths.set(place(low, high), house.noises.get(door));
                    lengths.set(place(high, low), house.noises.get(door));
                }
            }
            for (int middle = 0; middle < house.roomCount; middle++) {
                for (int room = 0; room < house.roomCount; room++) {
                    shorten(room, middle, house.roomCount);
                }
            }
        }

        private void shorten(int room, int middle, int rooms) {
            int first = lengths.get(place(room, middle));
            if (first >= FAR) {
                return;
            }
            for (int other = 0; other < rooms; other++) {
                int length = first + lengths.get(place(middle, other));
                if (length < lengths.get(place(room, other))) {
                    lengths.set(place(room, other), length);
                }
            }
        }

        int between(int room, int other) {
            int length = lengths.get(place(room, other));
            return length >= FAR ? NONE : length;
        }

        int differences(Paths others, int rooms) {
            int count = 0;
            for (int room = 0; room < rooms; room++) {
                for (int other = room + 1; other < rooms; other++) {
                    if (between(room, other) != others.between(room, other)) {
                        count++;
                    }
                }
            }
            return count;
        }

        private static int place(int room, int other) {
            return room * MOST_ROOMS + other;
        }
    }

    /** The input buffer. */
    private static final class Input {
        final Row bytes = new Row(MOST_BYTES);
        int length;

        void append(int four) {
            for (int shift = 24; shift >= 0; shift -= 8) {
                bytes.set(length, (four >>> shift) & 255);
                length++;
            }
        }

        // the name that the whole buffer is, or 0
        long wholeName() {
            if (length > MOST_LETTERS) {
                return 0;
            }
            long name = 0;
            for (int i = 0; i < length; i++) {
                int value = bytes.get(i);
                if (!isLetter(value)) {
                    return 0;
                }
                name = (name << 8) | value;
            }
            return name;
        }
    }

    /** Reads the tokens of a text, one ahead, and keeps the error of the latest text. */
    private static final class Tokens {
        // the single characters are kinds of their own, under their byte
        static final int END = 0;
        static final int WORD = 1;
        static final int NUMBER = 2;
        static final int BAD = 3;

        private static final int MOST_DIGITS = 4;

        private final Input input;
        private int length;
        private int position;
        private int start;
        private int kind;
        long word;
        private int number;
        int errorCode;
        int errorOffset = NONE;

        Tokens(Input input) {
            this.input = input;
        }

        // the bytes stay where they are until the next feed, so the buffer can be emptied at once
        void begin() {
            length = input.length;
            input.length = 0;
            position = 0;
            errorCode = 0;
            errorOffset = NONE;
            advance();
        }

        void advance() {
            skipBlanks();
            start = position;
            if (position >= length) {
                kind = END;
                return;
            }
            int value = input.bytes.get(position);
            if (isLetter(value)) {
                readWord();
            } else if (isDigit(value)) {
                readNumber();
            } else {
                kind = value == ';' || value == '(' || value == ')' ? value : BAD;
                position++;
            }
        }

        private void skipBlanks() {
            while (position < length && (input.bytes.get(position) == ' ' || input.bytes.get(position) == '\n')) {
                position++;
            }
        }

        private void readWord() {
            word = 0;
            while (position < length && isLetter(input.bytes.get(position))) {
                word = (word << 8) | input.bytes.get(position);
                position++;
            }
            kind = position - start > MOST_LETTERS ? BAD : WORD;
        }

        private void readNumber() {
            number = 0;
            while (position < length && isDigit(input.bytes.get(position))) {
                number = number * 10 + input.bytes.get(position) - '0';
                position++;
            }
            kind = position - start > MOST_DIGITS ? BAD : NUMBER;
        }

        boolean is(int wanted) {
            return kind == wanted;
        }

        boolean isWord(String wanted) {
            long packed = 0;
            for (int i = 0; i < wanted.length(); i++) {
                packed = (packed << 8) | wanted.charAt(i);
            }
            return kind == WORD && word == packed;
        }

        void refuseIf(boolean wrong, int code) {
            if (wrong) {
                errorCode = code;
                errorOffset = start;
                throw new IllegalArgumentException("the text has an error");
            }
        }

        void take(int wanted) {
            refuseIf(kind != wanted, 1);
            advance();
        }

        boolean takeIfWord(String wanted) {
            boolean found = isWord(wanted);
            if (found) {
                advance();
            }
            return found;
        }

        int takeNumber(int least, int most) {
            refuseIf(kind != NUMBER, 1);
            refuseIf(number < least || number > most, 2);
            int value = number;
            advance();
            return value;
        }

        int takeRoom(House house) {
            refuseIf(kind != WORD, 1);
            int room = house.roomNamed(word);
            refuseIf(room == NONE, 4);
            advance();
            return room;
        }
    }

    /** Reads a description into a house. */
    private static final class Description {
        private final Tokens tokens;
        private final House house;
        private final Night night;

        Description(Tokens tokens, House house, Night night) {
            this.tokens = tokens;
            this.house = house;
            this.night = night;
        }

        void read() {
            house.clear();
            tokens.begin();
            tokens.refuseIf(!tokens.isWord("house"), 1);
            tokens.advance();
            tokens.take(';');
            // a statement has more than one byte, so the text ends before the counter does
            for (int statements = 0; statements < MOST_BYTES && !tokens.is(Tokens.END); statements++) {
                readStatement();
                tokens.take(';');
            }
        }

        private void readStatement() {
            if (tokens.isWord("room")) {
                readRoom();
            } else if (tokens.isWord("door")) {
                readDoor();
            } else if (tokens.isWord("ghost")) {
                readGhost();
            } else if (tokens.isWord("nights")) {
                readNights();
            } else {
                readSetting();
            }
        }

        private void readRoom() {
            tokens.refuseIf(house.roomCount >= MOST_ROOMS, 5);
            tokens.advance();
            tokens.refuseIf(!tokens.is(Tokens.WORD), 1);
            tokens.refuseIf(house.roomNamed(tokens.word) != NONE, 3);
            long name = tokens.word;
            tokens.advance();
            int cold = tokens.takeNumber(0, MOST_COLDNESS);
            int room = house.appendRoom(name, cold, true);
            if (tokens.takeIfWord("thermo")) {
                house.thermometers |= bit(room);
            }
            if (tokens.takeIfWord("micro")) {
                house.microphones |= bit(room);
            }
        }

        private void readDoor() {
            tokens.refuseIf(house.doorCount >= MOST_DOORS, 5);
            tokens.advance();
            int room = tokens.takeRoom(house);
            tokens.refuseIf(!tokens.is(Tokens.WORD), 1);
            int other = house.roomNamed(tokens.word);
            tokens.refuseIf(other == room, 3);
            tokens.refuseIf(other == NONE, 4);
            tokens.refuseIf(house.doorOf(room, other) != NONE, 6);
            tokens.advance();
            int noise = tokens.takeNumber(0, MOST_NOISE);
            int door = house.appendDoor(room, other, noise);
            if (tokens.takeIfWord("closed")) {
                house.openDoors &= ~bit(door);
            }
        }

        private void readGhost() {
            tokens.advance();
            tokens.refuseIf(!tokens.is(Tokens.WORD), 1);
            int room = house.roomNamed(tokens.word);
            tokens.refuseIf(room == NONE, 4);
            tokens.refuseIf(!contains(house.possible, room), 6);
            tokens.advance();
            house.ghost = room;
        }

        private void readNights() {
            tokens.refuseIf(house.roomCount == 0, 6);
            tokens.advance();
            int nights = tokens.takeNumber(1, MOST_NIGHTS);
            for (int passed = 0; passed < nights; passed++) {
                night.pass(house);
            }
        }

        private void readSetting() {
            int setting = Settings.named(tokens);
            tokens.refuseIf(setting == NONE, 1);
            tokens.advance();
            int value = tokens.takeNumber(Settings.least(setting), Settings.most(setting));
            house.settings.set(setting, value);
        }
    }

    /** Reads a script whole, so that an erroneous one changes nothing, and then runs it. */
    private static final class Script {
        // a command that sets a setting bears the number of the setting
        private static final int NIGHTS = 10;
        private static final int ASK = 11;
        private static final int OPEN = 12;
        private static final int CLOSE = 13;
        private static final int THERMO = 14;
        private static final int MICRO = 15;
        private static final int WARM = 16;
        private static final int EARN = 17;
        private static final int REPEAT = 18;
        private static final int REPEAT_END = 19;

        private static final int MOST_COMMANDS = 30;
        private static final int MOST_EXECUTED = 40;
        private static final int MOST_DEPTH = 2;
        private static final int MOST_REPEATS = 20;
        private static final int MOST_NUMBER = 9999;
        // 30 commands in two levels of 20 rounds take far fewer
        private static final int MOST_STEPS = 100000;

        private final Tokens tokens;
        private final House house;
        private final Actions actions;
        // each "repeat" has a second step where it ends
        private final Row kinds = new Row(2 * MOST_COMMANDS);
        private final Row firsts = new Row(2 * MOST_COMMANDS);
        private final Row seconds = new Row(2 * MOST_COMMANDS);
        private final Row roundsLeft = new Row(2 * MOST_COMMANDS);
        private int size;
        private int commands;
        private int depth;
        private int openRepeat;

        Script(Tokens tokens, House house, Actions actions) {
            this.tokens = tokens;
            this.house = house;
            this.actions = actions;
        }

        void parse() {
            size = 0;
            commands = 0;
            depth = 0;
            openRepeat = NONE;
            tokens.begin();
            // each round takes a token or more, so the text ends before the counter does
            for (int rounds = 0; rounds < MOST_BYTES && !tokens.is(Tokens.END); rounds++) {
                if (depth > 0 && tokens.is(')')) {
                    endRepeat();
                } else {
                    readCommand();
                }
            }
            tokens.refuseIf(depth > 0, 1);
        }

        private void readCommand() {
            int kind = takeCommandWord();
            if (kind == REPEAT) {
                beginRepeat();
                return;
            }
            if (kind == ASK) {
                add(kind, takeRooms(), 0);
            } else if (kind == OPEN || kind == CLOSE) {
                add(kind, takeDoor(), 0);
            } else if (kind == THERMO || kind == MICRO) {
                int room = tokens.takeRoom(house);
                add(kind, room, takeSwitch());
            } else if (kind == WARM) {
                int room = tokens.takeRoom(house);
                add(kind, room, tokens.takeNumber(0, MOST_NUMBER));
            } else {
                add(kind, tokens.takeNumber(0, MOST_NUMBER), 0);
            }
            tokens.take(';');
        }

        private int takeCommandWord() {
            int kind = commandKind();
            tokens.refuseIf(kind == NONE, 1);
            tokens.refuseIf(kind == REPEAT && depth >= MOST_DEPTH, 3);
            tokens.refuseIf(commands >= MOST_COMMANDS, 5);
            commands++;
            tokens.advance();
            return kind;
        }

        private int commandKind() {
            int setting = Settings.named(tokens);
            if (setting != NONE) {
                return setting == Settings.COINS ? NONE : setting;
            }
            if (tokens.isWord("nights")) {
                return NIGHTS;
            }
            if (tokens.isWord("ask")) {
                return ASK;
            }
            if (tokens.isWord("open")) {
                return OPEN;
            }
            if (tokens.isWord("close")) {
                return CLOSE;
            }
            if (tokens.isWord("thermo")) {
                return THERMO;
            }
            if (tokens.isWord("micro")) {
                return MICRO;
            }
            if (tokens.isWord("warm")) {
                return WARM;
            }
            if (tokens.isWord("earn")) {
                return EARN;
            }
            return tokens.isWord("repeat") ? REPEAT : NONE;
        }

        private int takeRooms() {
            int rooms = bit(tokens.takeRoom(house));
            for (int more = 0; more < MOST_BYTES && tokens.is(Tokens.WORD); more++) {
                rooms |= bit(tokens.takeRoom(house));
            }
            return rooms;
        }

        private int takeDoor() {
            int room = tokens.takeRoom(house);
            tokens.refuseIf(!tokens.is(Tokens.WORD), 1);
            int other = house.roomNamed(tokens.word);
            tokens.refuseIf(other == NONE, 4);
            int door = house.doorOf(room, other);
            tokens.refuseIf(door == NONE, 6);
            tokens.advance();
            return door;
        }

        private int takeSwitch() {
            boolean on = tokens.isWord("on");
            tokens.refuseIf(!on && !tokens.isWord("off"), 1);
            tokens.advance();
            return on ? 1 : 0;
        }

        private void beginRepeat() {
            int rounds = tokens.takeNumber(1, MOST_REPEATS);
            tokens.take('(');
            add(REPEAT, rounds, openRepeat);
            openRepeat = size - 1;
            depth++;
        }

        private void endRepeat() {
            add(REPEAT_END, openRepeat, 0);
            openRepeat = seconds.get(openRepeat);
            depth--;
            tokens.advance();
            tokens.take(';');
        }

        private void add(int kind, int first, int second) {
            kinds.set(size, kind);
            firsts.set(size, first);
            seconds.set(size, second);
            size++;
        }

        int run() {
            int executed = 0;
            int step = 0;
            for (int steps = 0; steps < MOST_STEPS && step < size && executed < MOST_EXECUTED; steps++) {
                int kind = kinds.get(step);
                if (kind == REPEAT) {
                    roundsLeft.set(step, firsts.get(step));
                    step++;
                } else if (kind == REPEAT_END) {
                    step = stepAfterRound(step);
                } else if (succeeds(kind, firsts.get(step), seconds.get(step))) {
                    executed++;
                    step++;
                } else {
                    return executed;
                }
            }
            return executed;
        }

        private int stepAfterRound(int end) {
            int begin = firsts.get(end);
            int left = roundsLeft.get(begin) - 1;
            roundsLeft.set(begin, left);
            return left > 0 ? begin + 1 : end + 1;
        }

        private boolean succeeds(int kind, int first, int second) {
            try {
                switch (kind) {
                    case NIGHTS:
                        actions.sleep(first);
                        break;
                    case ASK:
                        actions.ask(first);
                        break;
                    case OPEN:
                        actions.turnDoor(first, true);
                        break;
                    case CLOSE:
                        actions.turnDoor(first, false);
                        break;
                    case THERMO:
                        actions.fitThermometer(first, second == 1);
                        break;
                    case MICRO:
                        actions.fitMicrophone(first, second == 1);
                        break;
                    case WARM:
                        actions.heatRoom(first, second);
                        break;
                    case EARN:
                        actions.earn(first);
                        break;
                    default:
                        actions.change(kind, first);
                        break;
                }
                return true;
            } catch (IllegalArgumentException refused) {
                return false;
            } catch (IllegalStateException refused) {
                return false;
            }
        }
    }

    /** The houses before the latest undoable calls. */
    private static final class History {
        private static final int MOST_CALLS = 6;
        // one more than are remembered: the next call is prepared before it is known to succeed
        private static final int SLOTS = MOST_CALLS + 1;

        private final House[] slots = new House[SLOTS];
        private int oldest;
        private int count;

        History() {
            for (int i = 0; i < slots.length; i++) {
                slots[i] = new House();
            }
        }

        void prepare(House house) {
            House slot = slotAfter(count);
            if (slot != null) {
                slot.copyFrom(house);
            }
        }

        void remember() {
            if (count < MOST_CALLS) {
                count++;
            } else {
                oldest = (oldest + 1) % SLOTS;
            }
        }

        void forget() {
            count = 0;
        }

        int takeBack(House house) {
            if (count <= 0) {
                throw new IllegalStateException("there is no call to undo");
            }
            count--;
            House slot = slotAfter(count);
            if (slot != null) {
                house.copyFrom(slot);
            }
            return count;
        }

        private House slotAfter(int calls) {
            int index = (oldest + calls) % SLOTS;
            return index >= 0 && index < slots.length ? slots[index] : null;
        }
    }
}
