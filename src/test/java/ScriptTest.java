/** Promise 57: runScript, with every place of the grammar of a script. */
public final class ScriptTest {
    public static void main(String[] args) {
        everyCommandIsExecuted();
        executionStopsAtTheFirstRefusal();
        theEmptyScript();
        twentyCommandsAreTheMost();
        wrongTokens();
        numbersOutOfRange();
        aFaultyScriptIsNoChange();
        lengthsOutOfRangeLeaveTheBuffer();
        aScriptIsOneChange();
        scriptsReachTheEnd();
        Check.finish();
    }

    private static void fault(String text, int code, int offset) {
        BeggarKings x = new BeggarKings();
        String before = Check.state(x);
        Check.same("runScript " + text, Check.run(x, text), -1);
        Check.same("errorCode " + text, x.errorCode(), code);
        Check.same("errorOffset " + text, x.errorOffset(), offset);
        Check.same("undoableCount " + text, x.undoableCount(), 0);
        Check.same("state " + text, Check.state(x), before);
        Check.badArgument("the buffer is empty after " + text, () -> x.runScript(1));
    }

    private static BeggarKings executed(String text, int commands) {
        BeggarKings x = new BeggarKings();
        Check.same("runScript " + text, Check.run(x, text), commands);
        Check.same("errorCode " + text, x.errorCode(), 0);
        Check.same("errorOffset " + text, x.errorOffset(), -1);
        Check.same("undoableCount " + text, x.undoableCount(), 1);
        return x;
    }

    private static void everyCommandIsExecuted() {
        BeggarKings x = executed("drop 0 9;pick 1 4;lay 0 0;lift 2 0;swap 0 1;queue 3 7;queue 4 3;quit 3;pride 1 17;turn 3;", 10);
        BeggarKings y = new BeggarKings();
        y.dropCoins(0, 9);
        y.pickCoins(1, 4);
        y.layRoyalCoin(0, 0);
        y.liftRoyalCoin(2, 0);
        y.swapRags(0, 1);
        y.joinQueue(3, 7);
        y.joinQueue(4, 3);
        y.quitQueue(3);
        y.setPride(1, 17);
        y.passTurns(3);
        Check.same("state", Check.state(x), Check.state(y));
        Check.same("crossings 4", x.crossings(4), 1);
        Check.same("royalHolder 0", x.royalHolder(0), 2);
        Check.same("groundCoins", x.groundCoins(false), 5);
        Check.same("pride 1", x.pride(1), 17);
        Check.same("rags 0", x.rags(0), 1);
        Check.same("turn", x.turn(), 3);
        BeggarKings z = executed(" \nturn\n0002 ;\n", 1);
        Check.same("turn", z.turn(), 2);
        executed("queue0 1;quit0;", 2);
    }

    private static void executionStopsAtTheFirstRefusal() {
        String[] refused = {
            "drop 2 4;", "drop 5 1;", "pick 0 1;", "pick 9 1;", "lay 1 0;", "lay 0 1;", "lay 0 7;", "lay 7 0;",
            "lift 0 0;", "lift 0 1;", "lift 6 0;", "lift 0 6;", "swap 0 0;", "swap 0 3;", "swap 0 8;", "swap 8 0;",
            "queue 1 1;", "queue 5 1;", "quit 0;", "quit 5;", "pride 5 1;"};
        for (String command : refused) {
            BeggarKings x = executed("queue 1 2;" + command + "turn 1;", 1);
            Check.same("turn after " + command, x.turn(), 0);
            Check.same("offer after " + command, x.offer(1), 2);
        }
        executed("drop 9 9;turn 1;", 0);
        executed("turn 1;turn 2;drop 9 9;", 2);
    }

    private static void theEmptyScript() {
        executed("", 0);
        executed(" \n ", 0);
        BeggarKings x = new BeggarKings();
        x.runScript(0);
        x.runScript(0);
        Check.same("undoableCount", x.undoableCount(), 2);
    }

    private static void twentyCommandsAreTheMost() {
        String twenty = "turn 1;".repeat(20);
        Check.same("turn", executed(twenty, 20).turn(), 20);
        Check.same("turn", executed(twenty + " \n", 20).turn(), 20);
        for (String word : new String[] {"drop", "pick", "lay", "lift", "swap", "queue", "quit", "pride", "turn"}) {
            fault(twenty + word, 3, 140);
            fault(twenty + " " + word + " 99;", 3, 141);
        }
        fault(twenty + "turns 1;", 1, 140);
        fault(twenty + ";", 1, 140);
        fault(twenty + "1", 1, 140);
        fault(twenty + "!", 1, 140);
        fault("turn 1;".repeat(19) + "turn 51;turn", 2, 138);
    }

    private static void wrongTokens() {
        fault(";", 1, 0);
        fault("1", 1, 0);
        fault("game", 1, 0);
        fault("dro 1 1;", 1, 0);
        fault("drops 1 1;", 1, 0);
        fault("xrop 1 1;", 1, 0);
        fault("Drop 1 1;", 1, 0);
        fault("drop", 1, 4);
        fault("drop ", 1, 5);
        fault("drop;", 1, 4);
        fault("drop one", 1, 5);
        fault("drop 1", 1, 6);
        fault("drop 1;", 1, 6);
        fault("drop 1 1", 1, 8);
        fault("drop 1 1 1;", 1, 9);
        fault("drop 1 1 drop", 1, 9);
        fault("drop 1,1;", 1, 6);
        fault("drop 1 -1;", 1, 7);
        fault("drop 1 1;;", 1, 9);
        fault("turn 1 1;", 1, 7);
        fault("turn;", 1, 4);
        fault("quit 1 1;", 1, 7);
        fault("quit;", 1, 4);
        fault("swap 1;", 1, 6);
        fault("lay 1;", 1, 5);
        fault("lift 1;", 1, 6);
        fault("pick 1;", 1, 6);
        fault("queue 1;", 1, 7);
        fault("pride 1;", 1, 7);
        fault("turn 1;turn 2", 1, 13);
        fault("turn 1;turn 2;x", 1, 14);
    }

    private static void numbersOutOfRange() {
        for (String command : new String[] {"drop P 1;", "pick P 1;", "lay P 0;", "lift P 0;", "swap P 0;", "queue P 1;", "quit P;", "pride P 1;"}) {
            fault(command.replace("P", "10"), 2, command.indexOf('P'));
            fault(command.replace("P", "4294967296"), 2, command.indexOf('P'));
        }
        fault("lay 0 10;", 2, 6);
        fault("lift 0 10;", 2, 7);
        fault("swap 0 10;", 2, 7);
        fault("drop 0 0;", 2, 7);
        fault("drop 0 1000;", 2, 7);
        fault("pick 0 0;", 2, 7);
        fault("pick 0 1000;", 2, 7);
        fault("queue 0 100;", 2, 8);
        fault("pride 0 41;", 2, 8);
        fault("turn 0;", 2, 5);
        fault("turn 51;", 2, 5);
        fault("turn 18446744073709551617;", 2, 5);
        BeggarKings x = Check.loaded("game 0 0 0 0;" + "king west 999 0 0;".repeat(10) + "bridge 1 0 1;");
        Check.same("runScript", Check.run(x, "drop 9 999;pick 9 999;lay 9 9;lift 9 9;swap 9 0;queue 9 99;quit 9;pride 9 40;turn 50;"), 9);
        Check.same("runScript", Check.run(x, "drop 0 1;pick 0 1;queue 0 0;pride 9 0;swap 0 9;turn 1;"), 6);
    }

    private static void aFaultyScriptIsNoChange() {
        fault("turn 1;drop 0 1;turn 0;", 2, 21);
        fault("turn 1;drop 0 1;turn", 1, 20);
    }

    private static void lengthsOutOfRangeLeaveTheBuffer() {
        BeggarKings x = new BeggarKings();
        Check.type(x, "turn 7;");
        Check.badArgument("runScript(-1)", () -> x.runScript(-1));
        Check.badArgument("runScript(21)", () -> x.runScript(21));
        Check.badArgument("runScript(max)", () -> x.runScript(Integer.MAX_VALUE));
        Check.badArgument("runScript(min)", () -> x.runScript(Integer.MIN_VALUE));
        Check.same("runScript(20)", x.runScript(20), 1);
        Check.same("turn", x.turn(), 7);
        Check.same("appendText after a script", x.appendText(0, 0, 0, 0, 0), 20);
        Check.same("runScript(7) of zeros", x.runScript(7), -1);
        Check.same("appendText after a faulty script", x.appendText(0, 0, 0, 0, 0), 20);
    }

    private static void aScriptIsOneChange() {
        BeggarKings x = new BeggarKings();
        String before = Check.state(x);
        Check.run(x, "turn 1;queue 0 3;turn 4;drop 9 9;turn 1;");
        Check.same("turn", x.turn(), 5);
        Check.same("undoableCount", x.undoableCount(), 1);
        x.undo();
        Check.same("state", Check.state(x), before);
    }

    private static void scriptsReachTheEnd() {
        BeggarKings x = new BeggarKings();
        String text = "turn 50;".repeat(20);
        for (int i = 0; i < 9; i++) {
            Check.same("runScript", Check.run(x, text), 20);
        }
        Check.same("turn", x.turn(), 9000);
        Check.same("runScript", Check.run(x, "turn 50;".repeat(19) + "turn 49;"), 20);
        Check.same("runScript", Check.run(x, "turn 2;turn 1;"), 0);
        Check.same("turn", x.turn(), 9999);
        Check.same("runScript", Check.run(x, "turn 1;turn 1;pride 0 0;"), 1);
        Check.same("turn", x.turn(), 10000);
    }
}
