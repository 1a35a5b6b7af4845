import java.util.ArrayDeque;
import java.util.ArrayList;
import java.util.Deque;
import java.util.List;
import java.util.Map;
import java.util.TreeMap;
import java.util.TreeSet;

/**
 * The document once more, written apart from the class and with other means: lists, texts, and reports that are
 * spelled out and compared. ModelTest compares its answers with those of the class.
 */
final class Model {
    static final int NONE = -1;

    static final class Room {
        String name;
        int coldness;
        boolean thermo;
        boolean micro;
        boolean possible;
        int reason;
        int evidence = NONE;
        int source = NONE;
    }

    static final class Door {
        int low;
        int high;
        int noise;
        boolean open = true;
    }

    static final class State {
        List<Room> rooms = new ArrayList<>();
        List<Door> doors = new ArrayList<>();
        int mode = 0;
        int chill = 1;
        int hearing = 5;
        int price = 2;
        int random = 7;
        int coins = 50;
        int spent = 0;
        int night = 0;
        int moves = 0;
        int ghost = NONE;

        State copy() {
            State s = new State();
            for (Room r : rooms) {
                Room n = new Room();
                n.name = r.name;
                n.coldness = r.coldness;
                n.thermo = r.thermo;
                n.micro = r.micro;
                n.possible = r.possible;
                n.reason = r.reason;
                n.evidence = r.evidence;
                n.source = r.source;
                s.rooms.add(n);
            }
            for (Door d : doors) {
                Door n = new Door();
                n.low = d.low;
                n.high = d.high;
                n.noise = d.noise;
                n.open = d.open;
                s.doors.add(n);
            }
            s.mode = mode;
            s.chill = chill;
            s.hearing = hearing;
            s.price = price;
            s.random = random;
            s.coins = coins;
            s.spent = spent;
            s.night = night;
            s.moves = moves;
            s.ghost = ghost;
            return s;
        }

        int roomNamed(String name) {
            for (int i = 0; i < rooms.size(); i++) {
                if (rooms.get(i).name.equals(name)) {
                    return i;
                }
            }
            return NONE;
        }

        int doorBetween(int a, int b) {
            for (int i = 0; i < doors.size(); i++) {
                Door d = doors.get(i);
                if (d.low == a && d.high == b || d.low == b && d.high == a) {
                    return i;
                }
            }
            return NONE;
        }

        boolean adjacent(int a, int b) {
            int door = doorBetween(a, b);
            return door != NONE && doors.get(door).open;
        }

        TreeSet<Integer> neighbors(int room) {
            TreeSet<Integer> found = new TreeSet<>();
            for (int i = 0; i < rooms.size(); i++) {
                if (adjacent(room, i)) {
                    found.add(i);
                }
            }
            return found;
        }

        boolean monitored(int door) {
            Door d = doors.get(door);
            return d.noise >= hearing && (rooms.get(d.low).micro || rooms.get(d.high).micro);
        }

        int possible() {
            int set = 0;
            for (int i = 0; i < rooms.size(); i++) {
                if (rooms.get(i).possible) {
                    set += 1 << i;
                }
            }
            return set;
        }

        int possibleCount() {
            return Integer.bitCount(possible());
        }

        /** What each sensor reports of a move; "t3" and "d3" are the sensors' keys. */
        Map<String, Boolean> reports(int from, int to, List<Integer> coldBefore) {
            Map<String, Boolean> reports = new TreeMap<>();
            for (int i = 0; i < rooms.size(); i++) {
                if (rooms.get(i).thermo && coldBefore.get(i) != 99) {
                    reports.put("t" + i, from == i);
                }
            }
            for (int i = 0; i < doors.size(); i++) {
                if (monitored(i)) {
                    reports.put("d" + i, from != to && doorBetween(from, to) == i);
                }
            }
            return reports;
        }

        int destination() {
            TreeSet<Integer> around = neighbors(ghost);
            if (mode == 0) {
                int smallest = rooms.get(ghost).coldness;
                for (int r : around) {
                    smallest = Math.min(smallest, rooms.get(r).coldness);
                }
                if (rooms.get(ghost).coldness == smallest) {
                    return ghost;
                }
                for (int r : around) {
                    if (rooms.get(r).coldness == smallest) {
                        return r;
                    }
                }
            }
            if (mode == 1) {
                for (int level = 0; level <= 9; level++) {
                    for (int r : around) {
                        if (doors.get(doorBetween(ghost, r)).noise == level) {
                            return r;
                        }
                    }
                }
                return ghost;
            }
            random = (5 * random + 3) % 16;
            int k = random % (around.size() + 1);
            return k == 0 ? ghost : new ArrayList<>(around).get(k - 1);
        }

        void passNight() {
            night++;
            if (rooms.isEmpty()) {
                return;
            }
            int from = ghost;
            int to = destination();
            List<Integer> coldBefore = new ArrayList<>();
            for (Room r : rooms) {
                coldBefore.add(r.coldness);
            }
            rooms.get(from).coldness = Math.min(99, rooms.get(from).coldness + chill);
            Map<String, Boolean> heard = reports(from, to, coldBefore);
            boolean[] before = new boolean[rooms.size()];
            for (int i = 0; i < before.length; i++) {
                before[i] = rooms.get(i).possible;
            }
            for (int r = 0; r < before.length; r++) {
                judge(r, before, heard, coldBefore);
            }
            ghost = to;
            if (from != to) {
                moves++;
            }
        }

        private void judge(int r, boolean[] before, Map<String, Boolean> heard, List<Integer> coldBefore) {
            Room room = rooms.get(r);
            room.possible = false;
            room.reason = 2;
            room.evidence = NONE;
            room.source = NONE;
            int lowest = NONE;
            for (int q = 0; q < before.length; q++) {
                if (before[q] && (q == r || adjacent(q, r))) {
                    if (lowest == NONE) {
                        lowest = q;
                    }
                    if (reports(q, r, coldBefore).equals(heard)) {
                        room.possible = true;
                    }
                }
            }
            if (room.possible) {
                room.reason = 0;
                return;
            }
            if (lowest == NONE) {
                return;
            }
            Map<String, Boolean> would = reports(lowest, r, coldBefore);
            room.source = lowest;
            for (int i = rooms.size() - 1; i >= 0; i--) {
                if (would.containsKey("t" + i) && !would.get("t" + i).equals(heard.get("t" + i))) {
                    room.reason = 3;
                    room.evidence = i;
                }
            }
            if (room.reason == 3) {
                return;
            }
            room.reason = 4;
            for (int i = doors.size() - 1; i >= 0; i--) {
                if (would.containsKey("d" + i) && !would.get("d" + i).equals(heard.get("d" + i))) {
                    room.evidence = i;
                }
            }
        }

        /** By relaxing all doors until nothing changes. */
        int quietestPath(int from, int to) {
            int[] length = new int[rooms.size()];
            java.util.Arrays.fill(length, Integer.MAX_VALUE);
            length[from] = 0;
            boolean changed = true;
            while (changed) {
                changed = false;
                for (Door d : doors) {
                    if (!d.open) {
                        continue;
                    }
                    if (length[d.low] != Integer.MAX_VALUE && length[d.low] + d.noise < length[d.high]) {
                        length[d.high] = length[d.low] + d.noise;
                        changed = true;
                    }
                    if (length[d.high] != Integer.MAX_VALUE && length[d.high] + d.noise < length[d.low]) {
                        length[d.low] = length[d.high] + d.noise;
                        changed = true;
                    }
                }
            }
            return length[to] == Integer.MAX_VALUE ? NONE : length[to];
        }

        List<Integer> allPaths() {
            List<Integer> all = new ArrayList<>();
            for (int a = 0; a < rooms.size(); a++) {
                for (int b = 0; b < rooms.size(); b++) {
                    all.add(quietestPath(a, b));
                }
            }
            return all;
        }
    }

    /** A command of a script; a repeat has a body. */
    static final class Command {
        String word;
        int first;
        int second;
        List<Command> body;
    }

    static final class Token {
        char kind;
        String text;
        int offset;
    }

    static final class TextError extends RuntimeException {
        private static final long serialVersionUID = 1L;
        final int code;
        final int offset;

        TextError(int code, int offset) {
            this.code = code;
            this.offset = offset;
        }
    }

    State now = new State();
    State saved;
    final Deque<State> undo = new ArrayDeque<>();
    String input = "";
    String output = "";
    int errorCode = 0;
    int errorOffset = NONE;

    private List<Token> tokens;
    private int at;
    private int commandCount;

    // ---- tokens

    private static List<Token> split(String text) {
        List<Token> list = new ArrayList<>();
        int i = 0;
        while (i < text.length()) {
            char c = text.charAt(i);
            if (c == ' ' || c == '\n') {
                i++;
                continue;
            }
            java.util.regex.Matcher m = java.util.regex.Pattern.compile("[a-z]+|[0-9]+|(?s:.)").matcher(text);
            m.find(i);
            Token t = new Token();
            t.text = m.group();
            t.offset = i;
            char f = t.text.charAt(0);
            if (f >= 'a' && f <= 'z') {
                t.kind = t.text.length() <= 8 ? 'w' : 'x';
            } else if (f >= '0' && f <= '9') {
                t.kind = t.text.length() <= 4 ? 'n' : 'x';
            } else {
                t.kind = ";()".indexOf(f) >= 0 ? f : 'x';
            }
            list.add(t);
            i += t.text.length();
        }
        Token end = new Token();
        end.kind = '$';
        end.text = "";
        end.offset = text.length();
        list.add(end);
        return list;
    }

    private Token peek() {
        return tokens.get(at);
    }

    private TextError error(int code) {
        return new TextError(code, peek().offset);
    }

    private String take(char kind) {
        if (peek().kind != kind) {
            throw error(1);
        }
        return tokens.get(at++).text;
    }

    private boolean sees(String word) {
        return peek().kind == 'w' && peek().text.equals(word);
    }

    private boolean takeWord(String word) {
        if (sees(word)) {
            at++;
            return true;
        }
        return false;
    }

    private int number(int least, int most) {
        if (peek().kind != 'n') {
            throw error(1);
        }
        int value = Integer.parseInt(peek().text);
        if (value < least || value > most) {
            throw error(2);
        }
        at++;
        return value;
    }

    private int existing(State s) {
        if (peek().kind != 'w') {
            throw error(1);
        }
        int room = s.roomNamed(peek().text);
        if (room == NONE) {
            throw error(4);
        }
        at++;
        return room;
    }

    // ---- descriptions

    int readText() {
        State s = new State();
        tokens = split(input);
        input = "";
        at = 0;
        try {
            if (!takeWord("house")) {
                throw error(1);
            }
            take(';');
            while (peek().kind != '$') {
                statement(s);
                take(';');
            }
        } catch (TextError e) {
            errorCode = e.code;
            errorOffset = e.offset;
            throw new IllegalArgumentException();
        }
        errorCode = 0;
        errorOffset = NONE;
        now = s;
        undo.clear();
        return s.rooms.size();
    }

    private void statement(State s) {
        if (peek().kind != 'w') {
            throw error(1);
        }
        switch (peek().text) {
            case "room" -> {
                if (s.rooms.size() == 12) {
                    throw error(5);
                }
                at++;
                Room r = new Room();
                if (peek().kind == 'w' && s.roomNamed(peek().text) != NONE) {
                    throw error(3);
                }
                r.name = take('w');
                r.coldness = number(0, 99);
                r.possible = true;
                r.thermo = takeWord("thermo");
                r.micro = takeWord("micro");
                s.rooms.add(r);
                s.ghost = Math.max(s.ghost, 0);
            }
            case "door" -> {
                if (s.doors.size() == 24) {
                    throw error(5);
                }
                at++;
                String first = peek().text;
                int a = existing(s);
                if (sees(first)) {
                    throw error(3);
                }
                int b = existing(s);
                if (s.doorBetween(a, b) != NONE) {
                    at--;
                    throw error(6);
                }
                Door d = new Door();
                d.low = Math.min(a, b);
                d.high = Math.max(a, b);
                d.noise = number(0, 9);
                d.open = !takeWord("closed");
                s.doors.add(d);
            }
            case "ghost" -> {
                at++;
                int room = existing(s);
                if (!s.rooms.get(room).possible) {
                    at--;
                    throw error(6);
                }
                s.ghost = room;
            }
            case "nights" -> {
                if (s.rooms.isEmpty()) {
                    throw error(6);
                }
                at++;
                for (int n = number(1, 50); n > 0; n--) {
                    s.passNight();
                }
            }
            case "mode" -> {
                at++;
                s.mode = number(0, 2);
            }
            case "chill" -> {
                at++;
                s.chill = number(1, 9);
            }
            case "hearing" -> {
                at++;
                s.hearing = number(0, 9);
            }
            case "price" -> {
                at++;
                s.price = number(1, 9);
            }
            case "random" -> {
                at++;
                s.random = number(0, 15);
            }
            case "coins" -> {
                at++;
                s.coins = number(0, 999);
            }
            default -> throw error(1);
        }
    }

    // ---- scripts

    int runScript() {
        tokens = split(input);
        input = "";
        at = 0;
        commandCount = 0;
        List<Command> commands;
        try {
            commands = block(0);
            if (peek().kind != '$') {
                throw error(1);
            }
        } catch (TextError e) {
            errorCode = e.code;
            errorOffset = e.offset;
            throw new IllegalArgumentException();
        }
        errorCode = 0;
        errorOffset = NONE;
        State before = now.copy();
        int[] executed = {0};
        execute(commands, executed);
        remember(before);
        return executed[0];
    }

    private List<Command> block(int depth) {
        List<Command> commands = new ArrayList<>();
        while (peek().kind != '$' && !(depth > 0 && peek().kind == ')')) {
            commands.add(command(depth));
            take(';');
        }
        return commands;
    }

    private Command command(int depth) {
        Command c = new Command();
        c.word = peek().text;
        List<String> words = List.of("nights", "ask", "open", "close", "thermo", "micro", "warm", "earn", "mode",
                "chill", "hearing", "price", "random", "repeat");
        if (!words.contains(c.word)) {
            throw error(1);
        }
        if (c.word.equals("repeat") && depth == 2) {
            throw error(3);
        }
        commandCount++;
        if (commandCount == 31) {
            throw error(5);
        }
        at++;
        switch (c.word) {
            case "ask" -> {
                do {
                    c.first |= 1 << existing(now);
                } while (peek().kind != ';');
            }
            case "open", "close" -> {
                int a = existing(now);
                int b = existing(now);
                c.first = now.doorBetween(a, b);
                if (c.first == NONE) {
                    at--;
                    throw error(6);
                }
            }
            case "thermo", "micro" -> {
                c.first = existing(now);
                c.second = sees("on") ? 1 : 0;
                if (!takeWord("on") && !takeWord("off")) {
                    throw error(1);
                }
            }
            case "warm" -> {
                c.first = existing(now);
                c.second = number(0, 9999);
            }
            case "repeat" -> {
                c.first = number(1, 20);
                take('(');
                c.body = block(depth + 1);
                take(')');
            }
            default -> c.first = number(0, 9999);
        }
        return c;
    }

    private boolean execute(List<Command> commands, int[] executed) {
        for (Command c : commands) {
            if (executed[0] == 40) {
                return false;
            }
            if (c.body != null) {
                for (int i = 0; i < c.first; i++) {
                    if (!execute(c.body, executed)) {
                        return false;
                    }
                }
                continue;
            }
            try {
                perform(c);
            } catch (IllegalArgumentException | IllegalStateException e) {
                return false;
            }
            executed[0]++;
        }
        return true;
    }

    private void perform(Command c) {
        switch (c.word) {
            case "nights" -> nights(c.first);
            case "ask" -> seance(c.first);
            case "open" -> doorOpen(c.first, true);
            case "close" -> doorOpen(c.first, false);
            case "thermo" -> thermometer(c.first, c.second == 1);
            case "micro" -> microphone(c.first, c.second == 1);
            case "warm" -> heat(c.first, c.second);
            case "earn" -> earn(c.first);
            default -> set(c.word, c.first);
        }
    }

    // ---- changes; undoable() wraps them

    interface Change {
        long run();
    }

    long undoable(Change change) {
        State before = now.copy();
        long result = change.run();
        remember(before);
        return result;
    }

    private void remember(State before) {
        undo.push(before);
        if (undo.size() > 6) {
            undo.removeLast();
        }
    }

    int undo() {
        state(!undo.isEmpty());
        now = undo.pop();
        return undo.size();
    }

    static void state(boolean right) {
        if (!right) {
            throw new IllegalStateException();
        }
    }

    static void argument(boolean right) {
        if (!right) {
            throw new IllegalArgumentException();
        }
    }

    void room(int room) {
        if (room < 0 || room >= now.rooms.size()) {
            throw new IndexOutOfBoundsException();
        }
    }

    void door(int door) {
        if (door < 0 || door >= now.doors.size()) {
            throw new IndexOutOfBoundsException();
        }
    }

    int addRoom(int coldness) {
        argument(coldness >= 0 && coldness <= 99);
        state(input.matches("[a-z]{1,8}") && now.roomNamed(input) == NONE && now.rooms.size() < 12);
        Room r = new Room();
        r.name = input;
        r.coldness = coldness;
        r.possible = now.rooms.isEmpty();
        r.reason = r.possible ? 0 : 5;
        now.rooms.add(r);
        now.ghost = Math.max(now.ghost, 0);
        input = "";
        return now.rooms.size() - 1;
    }

    int addDoor(int a, int b, int noise) {
        room(a);
        room(b);
        argument(a != b && noise >= 0 && noise <= 9);
        state(now.doorBetween(a, b) == NONE && now.doors.size() < 24);
        Door d = new Door();
        d.low = Math.min(a, b);
        d.high = Math.max(a, b);
        d.noise = noise;
        now.doors.add(d);
        return now.doors.size() - 1;
    }

    int doorOpen(int door, boolean open) {
        door(door);
        state(now.doors.get(door).open != open);
        now.doors.get(door).open = open;
        return (int) now.doors.stream().filter(d -> d.open).count();
    }

    int thermometer(int room, boolean present) {
        room(room);
        state(now.rooms.get(room).thermo != present);
        now.rooms.get(room).thermo = present;
        return (int) now.rooms.stream().filter(r -> r.thermo).count();
    }

    int microphone(int room, boolean present) {
        room(room);
        state(now.rooms.get(room).micro != present);
        now.rooms.get(room).micro = present;
        return (int) now.rooms.stream().filter(r -> r.micro).count();
    }

    int heat(int room, int amount) {
        room(room);
        argument(amount >= 1 && amount <= 99);
        state(amount <= now.rooms.get(room).coldness);
        return now.rooms.get(room).coldness -= amount;
    }

    int nights(int nights) {
        argument(nights >= 1 && nights <= 50);
        state(!now.rooms.isEmpty() && now.night + nights <= 9999);
        for (int i = 0; i < nights; i++) {
            now.passNight();
        }
        return now.possibleCount();
    }

    boolean seance(int rooms) {
        int asked = 0;
        int possible = 0;
        for (int i = 0; i < now.rooms.size(); i++) {
            if (now.rooms.get(i).possible) {
                possible++;
                asked += (rooms >> i) & 1;
            }
        }
        state(asked > 0 && asked < possible && now.price <= now.coins);
        now.coins -= now.price;
        now.spent += now.price;
        boolean answer = ((rooms >> now.ghost) & 1) == 1;
        for (int i = 0; i < now.rooms.size(); i++) {
            Room r = now.rooms.get(i);
            boolean isAsked = ((rooms >> i) & 1) == 1;
            if (r.possible && isAsked != answer) {
                r.possible = false;
                r.reason = 1;
                r.evidence = now.night;
                r.source = NONE;
            }
        }
        return answer;
    }

    int earn(int amount) {
        argument(amount >= 1 && amount <= 99);
        state(now.coins + amount <= 999);
        return now.coins += amount;
    }

    int set(String setting, int value) {
        int previous;
        switch (setting) {
            case "mode" -> {
                argument(value >= 0 && value <= 2);
                previous = now.mode;
                now.mode = value;
            }
            case "chill" -> {
                argument(value >= 1 && value <= 9);
                previous = now.chill;
                now.chill = value;
            }
            case "hearing" -> {
                argument(value >= 0 && value <= 9);
                previous = now.hearing;
                now.hearing = value;
            }
            case "price" -> {
                argument(value >= 1 && value <= 9);
                previous = now.price;
                now.price = value;
            }
            default -> {
                argument(value >= 0 && value <= 15);
                previous = now.random;
                now.random = value;
            }
        }
        return previous;
    }

    // ---- queries that are more than a field

    int roomByColdness(int rank) {
        List<Integer> order = new ArrayList<>();
        for (int i = 0; i < now.rooms.size(); i++) {
            order.add(i);
        }
        order.sort((a, b) -> now.rooms.get(b).coldness - now.rooms.get(a).coldness);
        return rank >= 0 && rank < order.size() ? order.get(rank) : NONE;
    }

    State after(int nights) {
        argument(nights >= 0 && nights <= 50);
        State s = now.copy();
        for (int i = 0; i < nights; i++) {
            s.passNight();
        }
        return s;
    }

    int nightsUntilKnown() {
        for (int n = 0; n <= 50; n++) {
            if (after(n).possibleCount() == 1) {
                return n;
            }
        }
        return NONE;
    }

    int bestThermometerRoom() {
        TreeMap<Integer, Integer> lowestByCount = new TreeMap<>();
        for (int i = 0; i < now.rooms.size(); i++) {
            if (!now.rooms.get(i).thermo) {
                State s = now.copy();
                s.rooms.get(i).thermo = true;
                s.passNight();
                lowestByCount.putIfAbsent(s.possibleCount(), i);
            }
        }
        return lowestByCount.isEmpty() ? NONE : lowestByCount.firstEntry().getValue();
    }

    int calmestMode() {
        TreeMap<Integer, Integer> lowestByMoves = new TreeMap<>();
        for (int mode = 0; mode <= 2; mode++) {
            State s = now.copy();
            s.mode = mode;
            s.moves = 0;
            for (int i = 0; i < 10; i++) {
                s.passNight();
            }
            lowestByMoves.putIfAbsent(s.moves, mode);
        }
        return lowestByMoves.firstEntry().getValue();
    }

    int mostImportantDoor() {
        int best = NONE;
        int most = -1;
        List<Integer> paths = now.allPaths();
        for (int i = 0; i < now.doors.size(); i++) {
            if (now.doors.get(i).open) {
                State s = now.copy();
                s.doors.get(i).open = false;
                List<Integer> others = s.allPaths();
                int changed = 0;
                for (int j = 0; j < paths.size(); j++) {
                    if (!paths.get(j).equals(others.get(j))) {
                        changed++;
                    }
                }
                if (changed > most) {
                    most = changed;
                    best = i;
                }
            }
        }
        return best;
    }

    int printReport() {
        StringBuilder text = new StringBuilder();
        for (int rank = 0; rank < now.rooms.size(); rank++) {
            int i = roomByColdness(rank);
            Room r = now.rooms.get(i);
            text.append(r.name).append(' ').append(r.coldness).append(r.thermo ? "t" : "").append(r.micro ? "m" : "")
                    .append(r.possible ? "?" : "").append(i == now.ghost ? "!" : "").append('\n');
        }
        output = text.toString();
        return output.length();
    }
}
