/** Promise 5 and term 6: scripts. */
public final class ScriptTest {
    private static final String HOUSE = "house;room a 5;room b 9;room c 9;door a b 3;door b c 7 closed;";

    private static GhostRooms x;

    public static void main(String[] args) {
        everyCommand();
        repeats();
        limitOfExecution();
        endsAtRefusedCommand();
        syntaxErrors();
        numbers();
        nameErrors();
        repeatErrors();
        tooManyCommands();
        namesThatAreWords();
        isOneUndoableCall();
        errorChangesNothing();
        longestScripts();
        Check.end();
    }

    private static void runs(String text, int executed) {
        x = Houses.house(HOUSE);
        Check.due("'" + text + "'", Houses.script(x, text), executed);
        Check.due("code of '" + text + "'", x.errorCode(), 0);
        Check.due("offset of '" + text + "'", x.errorOffset(), GhostRooms.NONE);
        Check.due("input after '" + text + "'", Check.thrownBy(() -> x.truncate(1)), "IllegalArgumentException");
    }

    private static void refuses(String text, int code, int offset) {
        x = Houses.house(HOUSE);
        Houses.feed(x, text);
        String before = Houses.state(x);
        Check.due("'" + text + "'", Check.thrownBy(x::runScript), "IllegalArgumentException");
        Check.due("code of '" + text + "'", x.errorCode(), code);
        Check.due("offset of '" + text + "'", x.errorOffset(), offset);
        Check.due("state after '" + text + "'", Houses.state(x), before);
        Check.due("input after '" + text + "'", Check.thrownBy(() -> x.truncate(1)), "IllegalArgumentException");
        Check.due("undo after '" + text + "'", Check.thrownBy(x::undo), "IllegalStateException");
    }

    private static void everyCommand() {
        runs("", 0);
        runs(" \n ", 0);
        runs("nights 2;ask b c;close a b;open c b;thermo a on;micro c on;warm b 4;earn 7;mode 1;chill 3;hearing 2;"
                + "price 4;random 9;", 13);
        Check.due("the house", Houses.state(x), "settings 1 3 2 4 9 coins 55 2 night 2 moves 0 ghost 0 possible 1\n"
                + "a 7 t why 0 -1 -1\nb 5 why 1 2 -1\nc 9 m why 1 2 -1\n0-1 3 closed\n1-2 7 open\n");
        runs("thermo a on;thermo a off;micro b on;micro b off;", 4);
        Check.no("off again", x.hasThermometer(0) || x.hasMicrophone(1));
        runs("ask a a a;", 1);
        Check.due("one price for all", x.coins(), 48);
        runs("ask a;ask b;", 1);
        runs("earn5;mode2 ; warm\nb1;", 3);
    }

    private static void repeats() {
        runs("repeat 3 (earn 1;);", 3);
        Check.due("coins", x.coins(), 53);
        runs("repeat 2 (earn 1; repeat 3 (earn 10;); earn 2;); earn 20;", 11);
        Check.due("coins", x.coins(), 136);
        runs("repeat 20 ();", 0);
        runs("repeat 1 (repeat 20 (););earn 1;", 1);
        runs("repeat 2 (repeat 2 (earn 1;);repeat 3 (earn 2;););repeat 2 (earn 3;);", 12);
        Check.due("coins", x.coins(), 72);
        runs("repeat 20 (earn 1;);repeat 20 (earn 1;);", 40);
        Check.due("coins", x.coins(), 90);
    }

    private static void limitOfExecution() {
        runs("repeat 20 (earn 1;earn 1;earn 1;);", 40);
        Check.due("coins", x.coins(), 90);
        runs("repeat 20 (earn 1;repeat 20 (earn 2;););", 40);
        Check.due("coins", x.coins(), 50 + 2 * 1 + 38 * 2);
        runs("repeat 13 (earn 1;earn 1;earn 1;);earn 10;earn 20;", 40);
        Check.due("coins", x.coins(), 50 + 39 + 10);
        runs("repeat 20 (earn 1;earn 1;);earn 0;", 40);
    }

    private static void endsAtRefusedCommand() {
        runs("earn 1;earn 0;earn 2;", 1);
        Check.due("coins", x.coins(), 51);
        runs("mode 3;", 0);
        runs("chill 0;", 0);
        runs("hearing 10;", 0);
        runs("price 0;", 0);
        runs("random 16;", 0);
        runs("nights 0;", 0);
        runs("nights 51;", 0);
        runs("warm a 6;", 0);
        runs("warm a 0;", 0);
        runs("open a b;", 0);
        runs("close b c;", 0);
        runs("thermo a off;", 0);
        runs("micro a off;", 0);
        runs("ask a b c;", 0);
        runs("earn 100;", 0);
        runs("repeat 20 (warm a 2;);earn 1;", 2);
        Check.due("coldness", x.coldness(0), 1);
        Check.due("coins", x.coins(), 50);
        runs("repeat 2 (repeat 2 (earn 1;thermo b on;);earn 9;);", 3);
        Check.due("coins", x.coins(), 52);
        Check.yes("the effects before it remain", x.hasThermometer(1));
        Check.due("a refused command is no error of the text", x.errorCode(), 0);
        x = new GhostRooms();
        Check.due("nights without a room", Houses.script(x, "earn 1;nights 1;earn 1;"), 1);
    }

    private static void syntaxErrors() {
        refuses("earn", 1, 4);
        refuses("earn ", 1, 5);
        refuses("earn 1", 1, 6);
        refuses("earn 1;;", 1, 7);
        refuses(";", 1, 0);
        refuses(")", 1, 0);
        refuses("earn 1;);", 1, 7);
        refuses("1;", 1, 0);
        refuses("coins 1;", 1, 0);
        refuses("house;", 1, 0);
        refuses("room d 1;", 1, 0);
        refuses("door a c 1;", 1, 0);
        refuses("ghost a;", 1, 0);
        refuses("earn a;", 1, 5);
        refuses("earn 1 2;", 1, 7);
        refuses("ask;", 1, 3);
        refuses("ask a 1;", 1, 6);
        refuses("ask a", 1, 5);
        refuses("ask 1;", 1, 4);
        refuses("open a;", 1, 6);
        refuses("open 1 b;", 1, 5);
        refuses("open a b 1;", 1, 9);
        refuses("thermo a;", 1, 8);
        refuses("thermo a 1;", 1, 9);
        refuses("thermo a open;", 1, 9);
        refuses("micro on;", 4, 6);
        refuses("warm a;", 1, 6);
        refuses("warm 1;", 1, 5);
        refuses("warm a b;", 1, 7);
        refuses("mode;", 1, 4);
        refuses("earn 1;#", 1, 7);
        refuses("abcdefghi;", 1, 0);
        refuses("xxxxxxxxearn 1;", 1, 0);
        refuses("earn 00001;", 1, 5);
        refuses("nights -1;", 1, 7);
    }

    private static void numbers() {
        runs("earn 9999;", 0);
        runs("warm a 0000;", 0);
        runs("mode 9999;", 0);
        runs("nights 9999;", 0);
        runs("earn 0001;", 1);
        refuses("earn 10000;", 1, 5);
        refuses("repeat 0 (earn 1;);", 2, 7);
        refuses("repeat 21 (earn 1;);", 2, 7);
        runs("repeat 20 (chill 2;);", 20);
        runs("repeat 1 (chill 2;);", 1);
    }

    private static void nameErrors() {
        refuses("ask d;", 4, 4);
        refuses("ask a b d c;", 4, 8);
        refuses("open d a;", 4, 5);
        refuses("open a d;", 4, 7);
        refuses("close d a;", 4, 6);
        refuses("thermo d on;", 4, 7);
        refuses("micro d on;", 4, 6);
        refuses("warm d 1;", 4, 5);
        refuses("open a c;", 6, 7);
        refuses("close a c;", 6, 8);
        refuses("open a a;", 6, 7);
        refuses("close c c;", 6, 8);
        runs("open b c;close c b;close b a;open a b;", 4);
    }

    private static void repeatErrors() {
        refuses("repeat 2 (repeat 2 (repeat 2 (earn 1;););", 3, 20);
        refuses("repeat 2 (repeat 2 (earn 1;repeat", 3, 27);
        runs("repeat 2 (repeat 2 (earn 1;);repeat 2 (earn 1;););", 8);
        refuses("repeat (earn 1;);", 1, 7);
        refuses("repeat 2 earn 1;", 1, 9);
        refuses("repeat 2 (earn 1);", 1, 16);
        refuses("repeat 2 (earn 1;)", 1, 18);
        refuses("repeat 2 (earn 1;", 1, 17);
        refuses("repeat 2 (earn 1; ", 1, 18);
        refuses("repeat 2 (repeat 2 (earn 1;);", 1, 29);
        refuses("repeat 2 (earn 1;) earn 1;", 1, 19);
        refuses("repeat 2 (earn 1;););", 1, 19);
        refuses("repeat 2 (;);", 1, 10);
        refuses("repeat 2 ;", 1, 9);
        refuses("repeat 2 );", 1, 9);
    }

    private static void tooManyCommands() {
        runs("earn 1;".repeat(30), 30);
        refuses("earn 1;".repeat(31), 5, 210);
        refuses("earn 1;".repeat(30) + "earn", 5, 210);
        refuses("earn 1;".repeat(30) + "repeat 99", 5, 210);
        refuses("earn 1;".repeat(30) + "bark", 1, 210);
        refuses("earn 1;".repeat(30) + ";", 1, 210);
        runs("repeat 1 (" + "earn 1;".repeat(29) + ");", 29);
        refuses("repeat 1 (" + "earn 1;".repeat(30) + ");", 5, 10 + 29 * 7);
        refuses("repeat 1 (" + "earn 1;".repeat(29) + ");earn 1;", 5, 10 + 29 * 7 + 2);
        runs("repeat 1 ();".repeat(30), 0);
        refuses("repeat 1 ();".repeat(31), 5, 360);
        refuses("repeat 1 (repeat 1 (" + "earn 1;".repeat(28) + "repeat", 3, 20 + 28 * 7);
        refuses("repeat 1 (repeat 1 (" + "earn 1;".repeat(28) + "earn", 5, 20 + 28 * 7);
    }

    private static void namesThatAreWords() {
        x = Houses.house("house;room on 5;room off 6;room repeat 7;door on off 1;");
        Check.due("rooms named like words", Houses.script(x, "thermo on on;micro off on;ask repeat;close off on;"), 4);
        Check.yes("thermometer in on", x.hasThermometer(0));
        Check.yes("microphone in off", x.hasMicrophone(1));
        Check.due("possible", x.possibleRooms(), 3);
    }

    private static void isOneUndoableCall() {
        x = Houses.house(HOUSE);
        String before = Houses.state(x);
        Houses.script(x, "nights 3;earn 5;repeat 3 (thermo b on;thermo b off;ask b;);");
        Check.due("one call", x.undo(), 0);
        Check.due("the state before", Houses.state(x), before);
        x.setChill(2);
        Houses.script(x, "earn 0;");
        Houses.script(x, "");
        Check.due("scripts that executed nothing", x.undo(), 2);
        Check.due("scripts that executed nothing", x.undo(), 1);
        Check.due("chill", x.chill(), 2);
        Check.due("the call before them", x.undo(), 0);
        Check.due("chill", x.chill(), 1);
    }

    private static void errorChangesNothing() {
        x = Houses.house(HOUSE);
        x.setChill(2);
        Houses.feed(x, "earn 5;nights 2;earn;");
        String before = Houses.state(x);
        Check.due("an error", Check.thrownBy(x::runScript), "IllegalArgumentException");
        Check.due("state", Houses.state(x), before);
        Check.due("the undoable call before it", x.undo(), 0);
        Check.due("chill", x.chill(), 1);
    }

    private static void longestScripts() {
        // the most steps: empty repeats inside a repeat, and a command behind them
        StringBuilder text = new StringBuilder("repeat20(");
        for (int i = 0; i < 28; i++) {
            text.append("repeat20();");
        }
        runs(text + ");earn 1;", 1);
        Check.due("coins", x.coins(), 51);
        // repeats behind many others
        runs("repeat 2 ();".repeat(20) + "repeat 2 (repeat 3 (earn 1;);earn 10;);", 8);
        Check.due("coins", x.coins(), 76);
        runs("repeat 20 (nights 50;nights 50;);", 40);
        Check.due("nights", x.nightNumber(), 2000);
        runs("ask" + " a".repeat(298) + ";", 1);
        refuses("ask" + " a".repeat(298) + "a", 4, 598);
        refuses("earn 1;" + "(".repeat(593), 1, 7);
    }
}
