import java.util.ArrayList;
import java.util.List;
import java.util.Random;

/** Long runs of calls, the same in every test run, answered by the class and by the model of the document. */
public final class ModelTest {
    private static final int RUNS = 600;
    // a step may take some 40 calls more, and an object has 512
    private static final int CALLS = 470;

    private interface Answer {
        Object get();
    }

    private final Random dice;
    private final GhostRooms x = new GhostRooms();
    private final Model m = new Model();
    private final List<String> calls = new ArrayList<>();
    private boolean differs;

    private ModelTest(int run) {
        dice = new Random(run);
    }

    public static void main(String[] args) {
        for (int run = 0; run < RUNS; run++) {
            ModelTest test = new ModelTest(run);
            while (test.calls.size() < CALLS && !test.differs) {
                test.step();
            }
            Check.no("run " + run + " differs", test.differs);
        }
        Check.end();
    }

    private static String outcome(Answer answer) {
        try {
            return String.valueOf(answer.get());
        } catch (RuntimeException e) {
            return "throws " + e.getClass().getSimpleName();
        }
    }

    private void same(String call, Answer mine, Answer due) {
        if (differs) {
            return;
        }
        calls.add(call);
        String got = outcome(mine);
        String want = outcome(due);
        if (!got.equals(want)) {
            differs = true;
            System.out.println(String.join("\n", calls.subList(Math.max(0, calls.size() - 12), calls.size())));
            System.out.println("answered " + got + ", due is " + want);
        }
    }

    private int below(int bound) {
        return dice.nextInt(bound);
    }

    private boolean chance(int in) {
        return below(in) == 0;
    }

    /** Mostly least to most, now and then just outside or far away. */
    private int near(int least, int most) {
        if (chance(12)) {
            int[] odd = {least - 1, most + 1, Integer.MIN_VALUE, Integer.MAX_VALUE, -1};
            return odd[below(odd.length)];
        }
        return least + below(most - least + 1);
    }

    private int aRoom() {
        return near(0, Math.max(0, m.now.rooms.size() - 1));
    }

    private int aDoor() {
        return near(0, Math.max(0, m.now.doors.size() - 1));
    }

    private void step() {
        int kind = below(100);
        if (kind < 3 || m.now.rooms.isEmpty() && kind < 60) {
            enter(description());
            same("readText()", x::readText, m::readText);
            error();
        } else if (kind < 8) {
            enter(script());
            same("runScript()", x::runScript, m::runScript);
            error();
        } else if (kind < 40) {
            change();
        } else if (kind < 43) {
            same("undo()", x::undo, m::undo);
        } else if (kind < 44) {
            save();
        } else {
            query();
        }
    }

    private void error() {
        same("errorCode()", x::errorCode, () -> m.errorCode);
        same("errorOffset()", x::errorOffset, () -> m.errorOffset);
    }

    private void enter(String text) {
        Houses.feed(x, text);
        m.input = text;
        calls.add("-- input: " + text.replace("\n", "\\n"));
        for (int i = 0; i < text.length(); i += 20) {
            calls.add("-- feed");
        }
        if (text.length() % 20 != 0) {
            calls.add("-- truncate");
        }
        int length = text.length() + (chance(8) ? 1 : 0);
        same("truncate(" + length + ")", () -> x.truncate(length), () -> {
            Model.argument(length <= m.input.length());
            return length;
        });
    }

    // ---- texts

    private String word() {
        String[] words = {"a", "b", "c", "d", "e", "f", "g", "hall", "attic", "cellar", "room", "on", "library",
            "bathroom", "z"};
        return words[below(chance(3) ? words.length : 7)];
    }

    private String blank() {
        String[] blanks = {" ", " ", " ", "  ", "\n", " \n "};
        return blanks[below(blanks.length)];
    }

    private String number(int least, int most) {
        int value = chance(25) ? below(2) == 0 ? most + 1 : Math.max(0, least - 1) : least + below(most - least + 1);
        return chance(10) ? "0" + value : String.valueOf(value);
    }

    private String damage(String text) {
        if (!chance(4) || text.isEmpty()) {
            return text;
        }
        int at = below(text.length());
        String[] odd = {"", " ", ";", "(", ")", "a", "7", "A", "\0", "\t", "\u00e4", "house", "12345", "abcdefghi",
            "door"};
        String damaged = text.substring(0, at) + odd[below(odd.length)] + text.substring(at + below(2));
        return chance(3) ? text.substring(0, at) : damaged;
    }

    private static String cut(String text) {
        return text.length() > 600 ? text.substring(0, 600) : text;
    }

    private String description() {
        StringBuilder text = new StringBuilder(chance(6) ? blank() : "").append("house;");
        int rooms = 1 + below(12) + (chance(15) ? 2 : 0);
        List<String> names = new ArrayList<>();
        for (int i = 0; i < rooms; i++) {
            String name = i < 5 || chance(2) ? String.valueOf((char) ('a' + i)) : word() + (char) ('h' + i);
            name = name.length() > 8 ? name.substring(0, 8) : name;
            names.add(name);
            text.append("room").append(blank()).append(name).append(blank())
                    .append(chance(4) ? number(90, 99) : number(0, chance(2) ? 99 : 9));
            text.append(chance(3) ? "thermo " : "").append(chance(3) ? "micro" : "").append(";");
        }
        settings(text);
        int doors = below(18);
        for (int i = 0; i < doors; i++) {
            String a = chance(60) ? word() : names.get(below(names.size()));
            String b = chance(60) ? word() : names.get(below(names.size()));
            if (a.equals(b) && !chance(30) || text.indexOf("door " + a + " " + b) >= 0 && !chance(30)
                    || text.indexOf("door " + b + " " + a) >= 0 && !chance(30)) {
                continue;
            }
            text.append("door ").append(a).append(" ").append(b).append(" ").append(number(0, 9))
                    .append(chance(6) ? "closed" : "").append(chance(9) ? blank() : "").append(";");
        }
        if (chance(2)) {
            text.append("ghost ").append(names.get(below(names.size()))).append(";");
        }
        if (chance(2)) {
            text.append("nights ").append(number(1, chance(3) ? 50 : 3)).append(";");
        }
        if (chance(6)) {
            text.append("room ").append(word()).append(" 5;ghost ").append(names.get(0)).append(";nights2;");
        }
        return cut(damage(text.toString()));
    }

    private void settings(StringBuilder text) {
        String[] words = {"mode", "chill", "hearing", "price", "random", "coins"};
        int[] least = {0, 1, 0, 1, 0, 0};
        int[] most = {2, 9, 9, 9, 15, 999};
        for (int i = 0; i < words.length; i++) {
            if (chance(3)) {
                text.append(words[i]).append(blank()).append(number(least[i], most[i])).append(";");
            }
        }
    }

    private String name() {
        return m.now.rooms.isEmpty() || chance(40) ? word() : m.now.rooms.get(below(m.now.rooms.size())).name;
    }

    private String script() {
        StringBuilder text = new StringBuilder();
        block(text, 0, chance(6) ? 35 : 1 + below(8));
        return cut(damage(text.toString()));
    }

    private void block(StringBuilder text, int depth, int commands) {
        for (int i = 0; i < commands; i++) {
            text.append(chance(9) ? blank() : "");
            command(text, depth);
            text.append(";");
        }
    }

    private void command(StringBuilder text, int depth) {
        switch (below(14)) {
            case 0 -> text.append("nights ").append(number(1, chance(6) ? 50 : 4));
            case 1 -> {
                text.append("ask");
                for (int i = below(4); i >= 0; i--) {
                    text.append(" ").append(name());
                }
            }
            case 2, 3 -> {
                text.append(chance(2) ? "open " : "close ");
                if (m.now.doors.isEmpty() || chance(15)) {
                    text.append(name()).append(" ").append(name());
                } else {
                    Model.Door d = m.now.doors.get(below(m.now.doors.size()));
                    text.append(m.now.rooms.get(d.high).name).append(" ").append(m.now.rooms.get(d.low).name);
                }
            }
            case 4 -> text.append("thermo ").append(name()).append(chance(2) ? " on" : " off");
            case 5 -> text.append("micro ").append(name()).append(chance(2) ? " on" : " off");
            case 6 -> text.append("warm ").append(name()).append(" ").append(number(1, chance(4) ? 99 : 3));
            case 7 -> text.append("earn ").append(number(1, 99));
            case 8 -> text.append("mode").append(number(0, 2));
            case 9 -> text.append("chill ").append(number(1, 9));
            case 10 -> text.append("hearing ").append(number(0, 9));
            case 11 -> text.append(chance(2) ? "price " : "random ").append(number(1, 9));
            default -> {
                if (depth == 2 && !chance(20)) {
                    text.append("earn1");
                    return;
                }
                text.append("repeat ").append(number(1, 20)).append(chance(4) ? " ( " : "(");
                block(text, depth + 1, below(4));
                text.append(")");
            }
        }
    }

    // ---- changes

    private void change() {
        switch (below(16)) {
            case 0 -> {
                enter(chance(5) ? damage(word() + "x") : word());
                int cold = near(0, 99);
                same("addRoom(" + cold + ")", () -> x.addRoom(cold), () -> m.undoable(() -> m.addRoom(cold)));
                same("findRoom()", x::findRoom, () -> m.now.roomNamed(m.input));
            }
            case 1, 2 -> {
                int a = aRoom();
                int b = aRoom();
                int noise = near(0, 9);
                same("addDoor(" + a + ", " + b + ", " + noise + ")", () -> x.addDoor(a, b, noise),
                        () -> m.undoable(() -> m.addDoor(a, b, noise)));
            }
            case 3 -> {
                int d = aDoor();
                boolean open = chance(2);
                same("setDoorOpen(" + d + ", " + open + ")", () -> x.setDoorOpen(d, open),
                        () -> m.undoable(() -> m.doorOpen(d, open)));
            }
            case 4 -> {
                int r = aRoom();
                boolean on = chance(2);
                same("setThermometer(" + r + ", " + on + ")", () -> x.setThermometer(r, on),
                        () -> m.undoable(() -> m.thermometer(r, on)));
            }
            case 5 -> {
                int r = aRoom();
                boolean on = chance(2);
                same("setMicrophone(" + r + ", " + on + ")", () -> x.setMicrophone(r, on),
                        () -> m.undoable(() -> m.microphone(r, on)));
            }
            case 6 -> {
                int r = aRoom();
                int amount = near(1, chance(3) ? 99 : 5);
                same("warm(" + r + ", " + amount + ")", () -> x.warm(r, amount),
                        () -> m.undoable(() -> m.heat(r, amount)));
            }
            case 7, 8, 9 -> {
                int n = near(1, chance(4) ? 50 : 2);
                same("passNights(" + n + ")", () -> x.passNights(n), () -> m.undoable(() -> m.nights(n)));
            }
            case 10, 11 -> {
                int rooms = chance(4) ? dice.nextInt() : 1 << below(12) | 1 << below(12);
                same("holdSeance(" + rooms + ")", () -> x.holdSeance(rooms) ? 1 : 0,
                        () -> m.undoable(() -> m.seance(rooms) ? 1 : 0));
            }
            case 12 -> {
                int amount = near(1, 99);
                same("earnCoins(" + amount + ")", () -> x.earnCoins(amount),
                        () -> m.undoable(() -> m.earn(amount)));
            }
            default -> setting();
        }
    }

    private void setting() {
        int value = near(0, chance(2) ? 15 : 2);
        switch (below(5)) {
            case 0 -> same("setMode(" + value + ")", () -> x.setMode(value),
                    () -> m.undoable(() -> m.set("mode", value)));
            case 1 -> same("setChill(" + value + ")", () -> x.setChill(value),
                    () -> m.undoable(() -> m.set("chill", value)));
            case 2 -> same("setHearingThreshold(" + value + ")", () -> x.setHearingThreshold(value),
                    () -> m.undoable(() -> m.set("hearing", value)));
            case 3 -> same("setSeancePrice(" + value + ")", () -> x.setSeancePrice(value),
                    () -> m.undoable(() -> m.set("price", value)));
            default -> same("setRandomState(" + value + ")", () -> x.setRandomState(value),
                    () -> m.undoable(() -> m.set("random", value)));
        }
    }

    private void save() {
        if (chance(2)) {
            same("saveState()", x::saveState, () -> {
                m.saved = m.now.copy();
                return m.now.night;
            });
        } else {
            same("restoreState()", x::restoreState, () -> {
                Model.state(m.saved != null);
                m.now = m.saved.copy();
                m.undo.clear();
                return m.now.night;
            });
        }
    }

    // ---- queries

    private void query() {
        int r = aRoom();
        int o = aRoom();
        int d = aDoor();
        int n = near(0, 50);
        int index = near(0, 8);
        switch (below(22)) {
            case 0 -> counters();
            case 1 -> same("possibleRooms()", x::possibleRooms, () -> m.now.possible());
            case 2 -> same("nameByte(" + r + ", " + index + ")", () -> x.nameByte(r, index), () -> {
                m.room(r);
                String name = m.now.rooms.get(r).name;
                return index >= 0 && index < name.length() ? name.charAt(index) : -1;
            });
            case 3 -> same("findRoom()", x::findRoom, () -> m.now.roomNamed(m.input));
            case 4 -> room(r);
            case 5 -> same("neighbors(" + r + ")", () -> x.neighbors(r), () -> {
                m.room(r);
                return m.now.neighbors(r).stream().mapToInt(i -> 1 << i).sum();
            });
            case 6 -> same("roomByColdness(" + r + ")", () -> x.roomByColdness(r), () -> m.roomByColdness(r));
            case 7 -> door(d);
            case 8 -> same("doorBetween(" + r + ", " + o + ")", () -> x.doorBetween(r, o), () -> {
                m.room(r);
                m.room(o);
                return m.now.doorBetween(r, o);
            });
            case 9 -> same("quietestPath(" + r + ", " + o + ")", () -> x.quietestPath(r, o), () -> {
                m.room(r);
                m.room(o);
                return m.now.quietestPath(r, o);
            });
            case 10, 11, 12 -> exclusion(r);
            case 13 -> same("violations()", x::violations, () -> 0);
            case 14 -> means();
            case 15 -> same("ghostRoomAfter(" + n + ")", () -> x.ghostRoomAfter(n), () -> m.after(n).ghost);
            case 16 -> same("possibleRoomsAfter(" + n + ")", () -> x.possibleRoomsAfter(n),
                    () -> m.after(n).possible());
            case 17 -> same("nightsUntilKnown()", x::nightsUntilKnown, m::nightsUntilKnown);
            case 18 -> same("bestThermometerRoom()", x::bestThermometerRoom, m::bestThermometerRoom);
            case 19 -> same("calmestMode()", x::calmestMode, m::calmestMode);
            case 20 -> same("mostImportantDoor()", x::mostImportantDoor, m::mostImportantDoor);
            default -> output();
        }
    }

    private void counters() {
        same("mode()", x::mode, () -> m.now.mode);
        same("chill()", x::chill, () -> m.now.chill);
        same("hearingThreshold()", x::hearingThreshold, () -> m.now.hearing);
        same("seancePrice()", x::seancePrice, () -> m.now.price);
        same("randomState()", x::randomState, () -> m.now.random);
        same("coins()", x::coins, () -> m.now.coins);
        same("coinsSpent()", x::coinsSpent, () -> m.now.spent);
        same("nightNumber()", x::nightNumber, () -> m.now.night);
        same("ghostMoves()", x::ghostMoves, () -> m.now.moves);
        same("roomCount()", x::roomCount, () -> m.now.rooms.size());
        same("doorCount()", x::doorCount, () -> m.now.doors.size());
        same("ghostRoom()", x::ghostRoom, () -> m.now.ghost);
    }

    private Model.Room modelRoom(int r) {
        m.room(r);
        return m.now.rooms.get(r);
    }

    private Model.Door modelDoor(int d) {
        m.door(d);
        return m.now.doors.get(d);
    }

    private void room(int r) {
        same("coldness(" + r + ")", () -> x.coldness(r), () -> modelRoom(r).coldness);
        same("hasThermometer(" + r + ")", () -> x.hasThermometer(r), () -> modelRoom(r).thermo);
        same("hasMicrophone(" + r + ")", () -> x.hasMicrophone(r), () -> modelRoom(r).micro);
    }

    private void door(int d) {
        same("lowRoom(" + d + ")", () -> x.lowRoom(d), () -> modelDoor(d).low);
        same("highRoom(" + d + ")", () -> x.highRoom(d), () -> modelDoor(d).high);
        same("noise(" + d + ")", () -> x.noise(d), () -> modelDoor(d).noise);
        same("isOpen(" + d + ")", () -> x.isOpen(d), () -> modelDoor(d).open);
        same("isMonitored(" + d + ")", () -> x.isMonitored(d), () -> {
            m.door(d);
            return m.now.monitored(d);
        });
    }

    private void exclusion(int r) {
        same("exclusionReason(" + r + ")", () -> x.exclusionReason(r), () -> modelRoom(r).reason);
        same("exclusionEvidence(" + r + ")", () -> x.exclusionEvidence(r), () -> modelRoom(r).evidence);
        same("exclusionSource(" + r + ")", () -> x.exclusionSource(r), () -> modelRoom(r).source);
    }

    private void means() {
        same("meanColdness()", x::meanColdness, () -> m.now.rooms.isEmpty() ? 0.0
                : m.now.rooms.stream().mapToInt(r -> r.coldness).average().getAsDouble());
        same("possibleFraction()", x::possibleFraction, () -> m.now.rooms.isEmpty() ? 0.0f
                : (float) m.now.possibleCount() / (float) m.now.rooms.size());
    }

    private void output() {
        if (chance(2)) {
            same("printReport()", x::printReport, m::printReport);
        }
        int index = near(0, Math.max(0, m.output.length() - 1));
        same("outputByte(" + index + ")", () -> x.outputByte(index), () -> {
            if (index < 0 || index >= m.output.length()) {
                throw new IndexOutOfBoundsException();
            }
            return (int) m.output.charAt(index);
        });
    }
}
