/** The edges of term 6 and of promise 5: scripts, their errors and their execution. */
public final class EdgeScriptTest {
    private static final String HOUSE = "house;room a 5;room b 6;room c 7;door a b 3;door b c 4 closed;";

    /** Every kind of command, token by token. */
    private static final String[] WHOLE = ("nights 1 ; ask a b ; open b c ; close a b ; thermo a on ; micro b on ; "
            + "thermo a off ; micro b off ; warm c 1 ; earn 2 ; mode 1 ; chill 2 ; hearing 3 ; price 4 ; random 5 ; "
            + "repeat 2 ( earn 3 ; repeat 1 ( earn 4 ; ) ; ) ; repeat 20 ( ) ;").split(" ");
    // earn 3 and earn 4 twice, and the fifteen commands before the repeats
    private static final int EXECUTED = 19;

    private static GhostRooms x;

    public static void main(String[] args) {
        emptyScripts();
        wholeScript();
        endsTooEarly();
        wrongTokens();
        numbersOfCommands();
        numbersOfRepeats();
        repeatInTwoRepeats();
        thirtyCommands();
        enclosedCommandsCount();
        smallestCode();
        unknownNames();
        noDoorBetweenTheRooms();
        setOfNamedRooms();
        calledMethods();
        settersAtTheirEnds();
        methodsThatThrow();
        effectsBeforeRemain();
        fortyCommands();
        repeatsBehindManyCommands();
        executedCommands();
        longestScripts();
        emptiesTheInput();
        oneUndoableCall();
        Check.end();
    }

    private static void runs(String text, int executed) {
        x = Houses.house(HOUSE);
        Check.due("'" + text + "'", Houses.script(x, text), executed);
        Check.due("error of '" + text + "'", x.errorCode() + " " + x.errorOffset(), "0 -1");
    }

    private static void refuses(String text, int code, int offset) {
        x = Houses.house(HOUSE);
        Houses.feed(x, text);
        Check.throwsThe(Check.ARGUMENT, "'" + text + "'", x::runScript);
        Check.due("error of '" + text + "'", x.errorCode() + " " + x.errorOffset(), code + " " + offset);
    }

    // Term 6: "script = { command ";" }"
    private static void emptyScripts() {
        runs("", 0);
        runs(" ", 0);
        runs("\n".repeat(600), 0);
        runs("repeat 1 ();", 0);
        runs("repeat 20 ( repeat 20 ( ) ; ) ;", 0);
        refuses(";", 1, 0);
        refuses("earn 1;;", 1, 7);
        refuses("repeat 1 (;);", 1, 10);
        x = new GhostRooms();
        Check.due("an empty script in an empty house", x.runScript(), 0);
    }

    // Term 5: "Adjacent words and numbers need no space between them."
    private static void wholeScript() {
        runs(String.join(" ", WHOLE), EXECUTED);
        runs("nights1;ask a b;open b c;warm c1;earn2;mode1;repeat2(earn3;repeat1(earn4;););", 10);
    }

    // Term 6: "Tokens, error codes 1 and 4, and offsets are as for descriptions."
    // Term 6: "```text script = { command ";" } command = "nights" N | "ask" name { name } | ( "open" | "close" ) name
    //     name | ( "thermo" | "micro" ) name ( "on" | "off" ) | "warm" name N | "earn" N | ( "mode" | "chill" |
    //     "hearing" | "price" | "random" ) N | "repeat" N "(" script ")" ```"
    private static void endsTooEarly() {
        StringBuilder text = new StringBuilder();
        int depth = 0;
        for (String token : WHOLE) {
            text.append(token);
            depth += token.equals("(") ? 1 : token.equals(")") ? -1 : 0;
            if (depth > 0 || !token.equals(";")) {
                refuses(text.toString(), 1, text.length());
                refuses(text + " \n ", 1, text.length() + 3);
            } else {
                Check.yes("a whole script", Houses.script(Houses.house(HOUSE), text.toString()) > 0);
            }
            text.append(' ');
        }
    }

    // Term 6: "Tokens, error codes 1 and 4, and offsets are as for descriptions."
    private static void wrongTokens() {
        for (String wrong : new String[] {"#", "\u00e1", "A", "\0", "\t", "\r", "abcdefghi", "12345", "-1", ","}) {
            StringBuilder text = new StringBuilder();
            for (String token : WHOLE) {
                refuses(text + wrong + " ;", 1, text.length());
                text.append(token).append(' ');
            }
            refuses(text + wrong, 1, text.length());
        }
        refuses("house ;", 1, 0);
        refuses("room d 5 ;", 1, 0);
        refuses("door a c 1 ;", 1, 0);
        refuses("ghost a ;", 1, 0);
        refuses("coins 1 ;", 1, 0);
        refuses("on ;", 1, 0);
        refuses("1 ;", 1, 0);
        refuses(") ;", 1, 0);
        refuses("( ) ;", 1, 0);
        refuses("earn 1 ; ) ;", 1, 9);
        refuses("repeat 1 ( ) ; ) ;", 1, 15);
        refuses("repeat 1 ( earn 1 ) ;", 1, 18);
        refuses("repeat 1 ( earn 1 ; ) )", 1, 22);
        refuses("repeat ( earn 1 ; ) ;", 1, 7);
        refuses("repeat 1 earn 1 ;", 1, 9);
        refuses("repeat 1 1 ( ) ;", 1, 9);
        refuses("earn 1 2 ;", 1, 7);
        refuses("earn a ;", 1, 5);
        refuses("ask ;", 1, 4);
        refuses("ask a 1 ;", 1, 6);
        refuses("open a ;", 1, 7);
        refuses("open a b c ;", 1, 9);
        refuses("thermo a ;", 1, 9);
        refuses("thermo a b ;", 1, 9);
        refuses("micro b on off ;", 1, 11);
        refuses("micro b onn ;", 1, 8);
        refuses("warm a ;", 1, 7);
        refuses("warm a b ;", 1, 7);
    }

    // Term 6: "other numbers may be 0 to 9999"
    private static void numbersOfCommands() {
        for (String front : new String[] {"nights ", "warm a ", "earn ", "mode ", "chill ", "hearing ", "price ",
            "random "}) {
            runs(front + "9999;", 0);
            runs(front + "5000;", 0);
            refuses(front + "10000;", 1, front.length());
            refuses(front + "00001;", 1, front.length());
            refuses(front + "-1;", 1, front.length());
        }
        for (String front : new String[] {"nights ", "warm a ", "earn ", "chill ", "price "}) {
            runs(front + "0;", 0);
            runs(front + "0000;", 0);
            runs(front + "0001;", 1);
        }
        for (String front : new String[] {"mode ", "hearing ", "random "}) {
            runs(front + "0;", 1);
            runs(front + "0000;", 1);
        }
    }

    // Term 6: "Code 2 applies only to the number of "repeat", which is 1 to 20"
    private static void numbersOfRepeats() {
        for (int rounds = 1; rounds <= 20; rounds++) {
            runs("repeat " + rounds + " (earn 1;);", rounds);
            Check.due("coins", x.coins(), 50 + rounds);
        }
        runs("repeat 0020 (earn 1;);", 20);
        for (String rounds : new String[] {"0", "0000", "21", "99", "9999"}) {
            refuses("repeat " + rounds + " (earn 1;);", 2, 7);
        }
        refuses("repeat 00001 (earn 1;);", 1, 7);
        refuses("repeat 1 (repeat 0 (earn 1;););", 2, 17);
        refuses("repeat 1 (repeat 21 (earn 1;););", 2, 17);
        refuses("repeat 21", 2, 7);
    }

    // Term 6: "Code 3 is reported for the word "repeat" inside two other repeats."
    private static void repeatInTwoRepeats() {
        runs("repeat 2 (repeat 3 (earn 1;););", 6);
        refuses("repeat 2 (repeat 3 (repeat 1 (earn 1;););", 3, 20);
        refuses("repeat 2 (repeat 3 (repeat", 3, 20);
        refuses("repeat 2 (repeat 3 (earn 1;repeat 99", 3, 27);
        runs("repeat 2 (repeat 3 (earn 1;);repeat 1 (earn 1;););", 8);
        runs("repeat 2 (repeat 1 ();repeat 1 ();repeat 1 (););repeat 1 (repeat 1 (earn 1;););", 1);
        refuses("repeat 2 (repeat 1 ();repeat 1 (repeat 1 (););", 3, 32);
    }

    // Term 6: "Code 5 is reported for the first word of the 31st command of the text"
    private static void thirtyCommands() {
        String thirty = "earn 1;".repeat(30);
        runs(thirty, 30);
        refuses(thirty + "earn 1;", 5, 210);
        refuses(thirty + "earn", 5, 210);
        refuses(thirty + " \n earn #", 5, 213);
        for (String word : new String[] {"nights", "ask", "open", "close", "thermo", "micro", "warm", "mode", "chill",
            "hearing", "price", "random", "repeat"}) {
            refuses(thirty + word, 5, 210);
        }
        refuses("earn 1;".repeat(31), 5, 210);
    }

    // Term 6: "a "repeat" counts as one command"
    private static void enclosedCommandsCount() {
        runs("repeat 1 (" + "earn 1;".repeat(29) + ");", 29);
        refuses("repeat 1 (" + "earn 1;".repeat(30) + ");", 5, 213);
        runs("repeat 1 ();".repeat(30), 0);
        refuses("repeat 1 ();".repeat(30) + "earn 1;", 5, 360);
        refuses("repeat 1 ();".repeat(31), 5, 360);
        runs("earn 1;".repeat(29) + "repeat 1 ();", 29);
        runs("repeat 20 (" + "earn 1;".repeat(29) + ");", 40);
        runs("repeat 1 (repeat 1 (" + "earn 1;".repeat(28) + "););", 28);
        refuses("repeat 1 (repeat 1 (" + "earn 1;".repeat(29) + "););", 5, 216);
    }

    // Term 5: "If several error codes apply to the same token, the smallest is reported"
    private static void smallestCode() {
        // a repeat in two repeats that is the 31st command, too
        refuses("repeat 1 (repeat 1 (" + "earn 1;".repeat(28) + "repeat 1 (", 3, 216);
        // no command at all behind thirty
        refuses("earn 1;".repeat(30) + "coins 1;", 1, 210);
        refuses("earn 1;".repeat(30) + "abcdefghi", 1, 210);
        refuses("earn 1;".repeat(30) + ")", 1, 210);
        // too long, out of range and unknown
        refuses("repeat 00000 ();", 1, 7);
        refuses("repeat 12345 ();", 1, 7);
        refuses("ask abcdefghi;", 1, 4);
        refuses("open a abcdefghi;", 1, 7);
    }

    // Term 6: "Tokens, error codes 1 and 4, and offsets are as for descriptions."
    private static void unknownNames() {
        refuses("ask d;", 4, 4);
        refuses("ask a d;", 4, 6);
        refuses("ask a b c d", 4, 10);
        refuses("open d a;", 4, 5);
        refuses("open a d;", 4, 7);
        refuses("close d d;", 4, 6);
        refuses("thermo d on;", 4, 7);
        refuses("micro d off;", 4, 6);
        refuses("warm d 1;", 4, 5);
        refuses("warm aa 1;", 4, 5);
        refuses("thermo on;", 4, 7);
        x = new GhostRooms();
        Houses.feed(x, "ask a;");
        Check.throwsThe(Check.ARGUMENT, "no room at all", x::runScript);
        Check.due("its error", x.errorCode() + " " + x.errorOffset(), "4 4");
    }

    // Term 6: "Code 6 is reported for the second name of "open" or "close" if no door connects both rooms."
    private static void noDoorBetweenTheRooms() {
        refuses("open a c;", 6, 7);
        refuses("open c a;", 6, 7);
        refuses("close a c;", 6, 8);
        refuses("close c a", 6, 8);
        refuses("open a a;", 6, 7);
        refuses("close b b;", 6, 8);
        runs("open b c;", 1);
        runs("open c b;", 1);
        runs("close a b;", 1);
        runs("close b a;", 1);
    }

    // Term 6: "holdSeance() (with the set of the named rooms)"
    private static void setOfNamedRooms() {
        runs("ask a;", 1);
        Check.due("one name", x.possibleRooms() + " " + x.coins(), "1 48");
        runs("ask c b;", 1);
        Check.due("two names", x.possibleRooms() + " " + x.coins(), "1 48");
        runs("ask b b b;", 1);
        Check.due("one name thrice", x.possibleRooms() + " " + x.coins(), "5 48");
        runs("ask a b c;", 0);
        Check.due("all names", x.possibleRooms() + " " + x.coins(), "7 50");
        x = Houses.house(Houses.rooms(12, 5));
        Check.due("eleven names", Houses.script(x, "ask l k j i h g f e d c b;"), 1);
        Check.due("one room is left", x.possibleRooms(), 1);
    }

    // Term 6: "The commands call passNights(), holdSeance() (with the set of the named rooms), setDoorOpen(),
    //     setThermometer(), setMicrophone(), warm(), earnCoins() and the setters of the settings."
    // Promise 5: "Parses the input buffer as a script and executes it."
    private static void calledMethods() {
        same("nights 50;", y -> y.passNights(50));
        same("ask a;", y -> y.holdSeance(1));
        same("open c b;", y -> y.setDoorOpen(1, true));
        same("close a b;", y -> y.setDoorOpen(0, false));
        same("thermo c on;", y -> y.setThermometer(2, true));
        same("micro c on;", y -> y.setMicrophone(2, true));
        same("thermo c on;thermo c off;", y -> y.setRandomState(7));
        same("micro c on;micro c off;", y -> y.setRandomState(7));
        same("warm c 7;", y -> y.warm(2, 7));
        same("earn 99;", y -> y.earnCoins(99));
        same("mode 2;", y -> y.setMode(2));
        same("chill 9;", y -> y.setChill(9));
        same("hearing 0;", y -> y.setHearingThreshold(0));
        same("price 9;", y -> y.setSeancePrice(9));
        same("random 15;", y -> y.setRandomState(15));
    }

    private static void same(String script, Twins.Step call) {
        GhostRooms y = Houses.house(HOUSE);
        call.on(y);
        x = Houses.house(HOUSE);
        Houses.script(x, script);
        Check.due("the house behind " + script, Houses.state(x), Houses.state(y));
        Check.due("calls to undo behind " + script, x.undo(), 0);
        Check.due("the house before " + script, Houses.state(x), Houses.state(Houses.house(HOUSE)));
    }

    // Term 6: "the setters of the settings"
    private static void settersAtTheirEnds() {
        ends("mode", 0, 2);
        ends("chill", 1, 9);
        ends("hearing", 0, 9);
        ends("price", 1, 9);
        ends("random", 0, 15);
        ends("nights", 1, 50);
        ends("earn", 1, 99);
        x = Houses.house("house;room a 99;");
        Check.due("warm at its ends", Houses.script(x, "warm a 1;warm a 98;"), 2);
        Check.due("below 0", Houses.script(x, "warm a 1;"), 0);
        x = Houses.house("house;room a 99;");
        Check.due("warm by 99", Houses.script(x, "warm a 99;"), 1);
        x = Houses.house("house;room a 99;");
        Check.due("warm by 100", Houses.script(x, "warm a 100;"), 0);
    }

    private static void ends(String word, int least, int most) {
        runs(word + " " + least + ";", 1);
        runs(word + " " + most + ";", 1);
        runs(word + " " + (most + 1) + ";", 0);
        if (least > 0) {
            runs(word + " " + (least - 1) + ";", 0);
        }
    }

    // Term 6: "Execution ends at the first command whose method throws an exception."
    private static void methodsThatThrow() {
        String[] refused = {"nights 0", "nights 51", "ask a b c", "open a b", "close b c", "thermo a off",
            "micro a off", "warm a 0", "warm a 100", "warm a 6", "earn 0", "earn 100", "mode 3", "chill 0", "chill 10",
            "hearing 10", "price 0", "price 10", "random 16"};
        for (String command : refused) {
            String before = Houses.state(Houses.house(HOUSE));
            runs(command + ";earn 1;", 0);
            Check.due("nothing behind " + command, Houses.state(x), before);
            runs("earn 1;" + command + ";earn 2;", 1);
            Check.due("only what is before " + command, x.coins(), 51);
            runs("repeat 3 (repeat 3 (earn 1;" + command + ";earn 2;);earn 4;);earn 8;", 1);
            Check.due("no more rounds behind " + command, x.coins(), 51);
        }
        runs("thermo a on;thermo a on;earn 1;", 1);
        runs("micro a on;micro a on;earn 1;", 1);
        runs("price 9;ask b;ask c;ask a;earn 1;", 3);
        x = Houses.house(HOUSE + "coins 1;");
        Check.due("a seance too dear", Houses.script(x, "ask a;earn 1;"), 0);
        x = Houses.house(HOUSE + "coins 990;");
        Check.due("too many coins", Houses.script(x, "earn 9;earn 1;chill 2;"), 1);
        x = new GhostRooms();
        Check.due("nights without a room", Houses.script(x, "nights 1;earn 1;"), 0);
        x = Houses.houseInNight(HOUSE, 9998);
        Check.due("beyond night 9999", Houses.script(x, "nights 1;nights 1;earn 1;"), 1);
    }

    // Term 6: "That command is not counted, and the effects of the commands before it remain."
    private static void effectsBeforeRemain() {
        runs("chill 9;nights 3;thermo b on;ask c;earn 100;mode 2;", 4);
        Check.due("the house", Houses.state(x), "settings 0 9 5 2 7 coins 48 2 night 3 moves 1 ghost 1 possible 3\n"
                + "a 23 why 0 -1 -1\nb 15 t why 0 -1 -1\nc 7 why 1 3 -1\n0-1 3 open\n1-2 4 closed\n");
    }

    // Term 6: "Execution also ends when 40 commands have been executed; a "repeat" itself is not counted."
    private static void fortyCommands() {
        runs("repeat 13 (earn 1;earn 1;earn 1;);", 39);
        runs("repeat 20 (earn 1;earn 1;);", 40);
        Check.due("forty coins", x.coins(), 90);
        runs("repeat 20 (earn 1;earn 1;);earn 9;", 40);
        Check.due("the 41st is not executed", x.coins(), 90);
        runs("repeat 13 (earn 1;earn 1;earn 1;);earn 9;earn 20;", 40);
        Check.due("the 40th is executed", x.coins(), 50 + 39 + 9);
        runs("repeat 20 (repeat 20 (earn 1;););", 40);
        runs("repeat 20 (earn 1;repeat 20 (););earn 1;", 21);
        runs("repeat 20 (earn 1;earn 1;);earn 0;", 40);
        runs("repeat 20 (repeat 2 (earn 1;););repeat 20 (repeat 20 (););", 40);
        runs("earn 1;".repeat(20) + "repeat 20 (earn 1;);earn 9;", 40);
        Check.due("forty coins", x.coins(), 90);
    }

    // Term 6: ""repeat" executes the enclosed commands as often as its number says."
    private static void repeatsBehindManyCommands() {
        String front = "repeat 2 ();".repeat(20);
        runs(front + "repeat 2 (repeat 3 (earn 1;);repeat 2 (earn 10;);earn 30;);", 12);
        Check.due("coins", x.coins(), 50 + 2 * (3 + 20 + 30));
        runs(front + "thermo a on;micro b on;warm a 5;ask b;open b c;close b a;nights 2;random 3;hearing 4;", 9);
        Check.due("the house", Houses.state(x), "settings 0 1 4 2 3 coins 48 2 night 2 moves 0 ghost 0 possible 1\n"
                + "a 2 t why 0 -1 -1\nb 6 m why 2 -1 -1\nc 7 why 2 -1 -1\n0-1 3 closed\n1-2 4 open\n");
        runs("repeat 2 (repeat 1 ();" + "repeat 1 ();".repeat(26) + "repeat 2 (earn 1;););", 4);
    }

    // Promise 5: "Returns the number of executed commands, "repeat" not counted."
    private static void executedCommands() {
        runs("repeat 3 (repeat 4 (earn 1;);mode 1;);chill 2;", 16);
        runs("repeat 5 ();", 0);
        runs("repeat 1 (earn 1;);", 1);
    }

    // Term 5: "A text is read from an input buffer of at most 600 bytes."
    private static void longestScripts() {
        runs("earn 1;" + " ".repeat(592) + "\n", 1);
        refuses("earn 1;" + " ".repeat(592) + "#", 1, 599);
        refuses(" ".repeat(594) + "earn 1", 1, 600);
        runs("ask" + " a".repeat(298) + ";", 1);
        refuses("ask" + " a".repeat(298) + "a", 4, 598);
        runs("repeat20(" + "repeat20();".repeat(28) + ");earn 1;", 1);
    }

    // Promise 5: "The input buffer is emptied, also on an error. Undoable."
    private static void emptiesTheInput() {
        runs("earn 1;", 1);
        Check.throwsThe(Check.ARGUMENT, "emptied", () -> x.truncate(1));
        refuses("earn 1", 1, 6);
        Check.throwsThe(Check.ARGUMENT, "emptied on an error", () -> x.truncate(1));
        runs("earn 0;", 0);
        Check.throwsThe(Check.ARGUMENT, "emptied behind a refused command", () -> x.truncate(1));
    }

    // Term 7: "runScript() with a valid text is one undoable call, however many commands it executed."
    private static void oneUndoableCall() {
        for (String script : new String[] {"", "earn 0;", "earn 1;", "earn 1;earn 2;earn 0;",
            "repeat 20 (earn 1;earn 2;);"}) {
            x = Houses.house(HOUSE);
            x.setChill(2);
            Houses.script(x, script);
            Check.due("undo '" + script + "'", x.undo(), 1);
            Check.due("coins before '" + script + "'", x.coins() + " " + x.chill(), "50 2");
            Check.due("undo the call before", x.undo(), 0);
        }
    }
}
