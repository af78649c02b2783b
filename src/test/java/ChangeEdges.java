/** The sentences of the terms about changes and exceptions, and the 512 calls of an object. */
final class ChangeEdges {
    /** A call of one of the methods that change the game, by its name. */
    private record Change(String name, Check.Call call) {
    }

    private ChangeEdges() {
    }

    static void run() {
        tenMethodsChangeTheGame();
        changesThatAlterNothing();
        parseErrorsAreNoChanges();
        scriptsAreOneChange();
        theLatestEight();
        olderChanges();
        exceptionsChangeNothing();
        theFirstExceptionIsThrown();
        fiveHundredAndTwelveCalls();
    }

    /** A game in which every change is possible: 1 queues, and a royal coin and copper coins lie on the west ground. */
    private static BeggarKings ready() {
        BeggarKings x = new BeggarKings();
        x.dropCoins(0, 9);
        x.layRoyalCoin(0, 0);
        x.joinQueue(1, 3);
        x.saveSnapshot();
        x.restoreSnapshot();
        return x;
    }

    private static Change[] changes(BeggarKings x) {
        return new Change[] {
            new Change("dropCoins", () -> x.dropCoins(0, 1)), new Change("pickCoins", () -> x.pickCoins(0, 9)),
            new Change("layRoyalCoin", () -> x.layRoyalCoin(3, 3)), new Change("liftRoyalCoin", () -> x.liftRoyalCoin(2, 0)),
            new Change("swapRags", () -> x.swapRags(0, 2)), new Change("joinQueue", () -> x.joinQueue(0, 0)),
            new Change("quitQueue", () -> x.quitQueue(1)), new Change("setPride", () -> x.setPride(0, 11)),
            new Change("passTurns", () -> x.passTurns(1)), new Change("runScript", () -> Check.run(x, "pride 4 4;"))};
    }

    private static void tenMethodsChangeTheGame() {
        Document.terms("The methods dropCoins, pickCoins, layRoyalCoin, liftRoyalCoin, swapRags, joinQueue, quitQueue, setPride, passTurns "
                + "and runScript change the game.");
        for (int i = 0; i < 10; i++) {
            BeggarKings x = ready();
            Change change = changes(x)[i];
            String before = Check.state(x);
            Check.same("undoableCount before " + change.name(), x.undoableCount(), 0);
            change.call().run();
            Check.isTrue(change.name() + " changes the game", !Check.state(x).equals(before));
            Check.same("undoableCount after " + change.name(), x.undoableCount(), 1);
            x.undo();
            Check.same("state after the undo of " + change.name(), Check.state(x), before);
        }
        // no other call is a change
        BeggarKings x = ready();
        x.setPride(0, 11);
        Check.type(x, "x");
        x.loadGame(1);
        x.writeQueue(false);
        x.outputByte(0);
        x.saveSnapshot();
        x.tollBoxAfter(100);
        x.limitAngleAfter(100);
        x.turnsUntilCrossing(0);
        x.firstPlaceOffer(0);
        x.cheapestRags(0);
        Check.same("undoableCount after other calls", x.undoableCount(), 1);
        x.undo();
        Check.same("pride after the undo", x.pride(0), 10);
    }

    private static void changesThatAlterNothing() {
        Document.terms("Each call of one of them that returns normally is a change, even if nothing is different afterwards.");
        BeggarKings x = new BeggarKings();
        x.setPride(0, 10);
        Check.same("undoableCount after the same pride", x.undoableCount(), 1);
        x.runScript(0);
        Check.same("undoableCount after an empty script", x.undoableCount(), 2);
        Check.run(x, "drop 9 9;");
        Check.same("undoableCount after a script of which nothing is executed", x.undoableCount(), 3);
        Check.run(x, "pride 0 10;");
        Check.same("undoableCount after a script that alters nothing", x.undoableCount(), 4);
        Check.same("undo", x.undo(), 3);
        Check.badState("a call that throws is no change", () -> x.quitQueue(0));
        Check.same("undoableCount", x.undoableCount(), 3);
    }

    private static void parseErrorsAreNoChanges() {
        Document.terms("A call of runScript that reports a parse error is not a change.");
        for (String text : new String[] {"x", "turn 51;", "turn 1;".repeat(21), "pride 0 3;turn"}) {
            BeggarKings x = new BeggarKings();
            x.passTurns(1);
            String before = Check.state(x);
            Check.same("runScript", Check.run(x, text), -1);
            Check.same("undoableCount", x.undoableCount(), 1);
            Check.same("state", Check.state(x), before);
            x.undo();
            Check.same("turn: the change before is undone", x.turn(), 0);
        }
    }

    private static void scriptsAreOneChange() {
        Document.terms("A script is one change.");
        for (int commands = 0; commands <= 20; commands++) {
            BeggarKings x = new BeggarKings();
            Check.run(x, "turn 1;".repeat(commands));
            Check.same("undoableCount after " + commands, x.undoableCount(), 1);
            Check.same("undo", x.undo(), 0);
            Check.same("turn", x.turn(), 0);
        }
    }

    private static void theLatestEight() {
        Document.terms("The latest 8 changes can be undone, the latest one first.");
        for (int changes = 0; changes <= 20; changes++) {
            BeggarKings x = new BeggarKings();
            for (int i = 0; i < changes; i++) {
                x.passTurns(1);
            }
            int undoable = Math.min(8, changes);
            Check.same("undoableCount after " + changes, x.undoableCount(), undoable);
            for (int i = 1; i <= undoable; i++) {
                Check.same("undo", x.undo(), undoable - i);
                Check.same("turn after " + i + " undos", x.turn(), changes - i);
            }
            Check.badState("undo of one more", () -> x.undo());
            Check.same("turn after that", x.turn(), changes - undoable);
        }
    }

    private static void olderChanges() {
        Document.terms("An older change cannot be undone any more.");
        BeggarKings x = new BeggarKings();
        for (int i = 0; i < 9; i++) {
            x.passTurns(1);
        }
        Check.same("undo of the ninth", x.undo(), 7);
        for (int left = 6; left >= 0; left--) {
            Check.same("undo", x.undo(), left);
        }
        Check.same("turn: the first change is not undone", x.turn(), 1);
        Check.badState("undo of the first", () -> x.undo());
    }

    /** The refused calls on an object that holds 9 coins and a royal coin on its west ground, and 1 in its queue. */
    private static void refused(BeggarKings x) {
        Check.badArgument("loadGame", () -> x.loadGame(-1));
        Check.badArgument("loadGame", () -> x.loadGame(501));
        Check.noPerson("isKing", () -> x.isKing(5) ? 1 : 0);
        Check.badArgument("bowTo", () -> x.bowTo(1, 1));
        Check.badArgument("royalHolder", () -> x.royalHolder(1));
        Check.noPerson("isOpen", () -> x.isOpen(2) ? 1 : 0);
        Check.noPerson("turnsUntilCrossing", () -> x.turnsUntilCrossing(5));
        Check.badArgument("tollBoxAfter", () -> x.tollBoxAfter(101));
        Check.badArgument("limitAngleAfter", () -> x.limitAngleAfter(-1));
        Check.noPerson("dropCoins", () -> x.dropCoins(5, 1));
        Check.badArgument("dropCoins", () -> x.dropCoins(0, 1000));
        Check.badState("dropCoins", () -> x.dropCoins(2, 4));
        Check.noPerson("pickCoins", () -> x.pickCoins(-1, 1));
        Check.badArgument("pickCoins", () -> x.pickCoins(0, 0));
        Check.badState("pickCoins", () -> x.pickCoins(0, 10));
        Check.noPerson("layRoyalCoin", () -> x.layRoyalCoin(3, 5));
        Check.badArgument("layRoyalCoin", () -> x.layRoyalCoin(3, 4));
        Check.badState("layRoyalCoin", () -> x.layRoyalCoin(3, 0));
        Check.noPerson("liftRoyalCoin", () -> x.liftRoyalCoin(5, 0));
        Check.badArgument("liftRoyalCoin", () -> x.liftRoyalCoin(0, 1));
        Check.badState("liftRoyalCoin", () -> x.liftRoyalCoin(3, 0));
        Check.noPerson("swapRags", () -> x.swapRags(0, 5));
        Check.badArgument("swapRags", () -> x.swapRags(0, 0));
        Check.badState("swapRags", () -> x.swapRags(0, 3));
        Check.noPerson("joinQueue", () -> x.joinQueue(5, 0));
        Check.badArgument("joinQueue", () -> x.joinQueue(0, 100));
        Check.badState("joinQueue", () -> x.joinQueue(1, 9));
        Check.noPerson("quitQueue", () -> x.quitQueue(5));
        Check.badState("quitQueue", () -> x.quitQueue(0));
        Check.noPerson("setPride", () -> x.setPride(5, 0));
        Check.badArgument("setPride", () -> x.setPride(0, 41));
        Check.badArgument("passTurns", () -> x.passTurns(51));
        Check.badArgument("runScript", () -> x.runScript(-1));
        Check.badArgument("runScript", () -> x.runScript(501));
        Check.noPerson("outputByte", () -> x.outputByte(3));
    }

    /** A played object: with something to undo, a snapshot, an output, a parse error and a text in its buffer. */
    private static BeggarKings played() {
        BeggarKings x = ready();
        x.setPride(4, 7);
        x.saveSnapshot();
        x.setPride(4, 8);
        x.writeQueue(false);
        Check.run(x, "turn 99;");
        Check.type(x, "pride 4 9;turn 2;");
        return x;
    }

    private static void exceptionsChangeNothing() {
        Document.terms("A method that throws an exception changes nothing.");
        BeggarKings x = played();
        BeggarKings twin = played();
        refused(x);
        same(x, twin);
        x.undo();
        twin.undo();
        same(x, twin);
        x.undo();
        twin.undo();
        Check.badState("undo of nothing", () -> x.undo());
        same(x, twin);
        Check.same("runScript of what is in the buffer", x.runScript(17), twin.runScript(17));
        same(x, twin);
        Check.same("restoreSnapshot", x.restoreSnapshot(), twin.restoreSnapshot());
        same(x, twin);
        BeggarKings fresh = new BeggarKings();
        Check.badState("undo", () -> fresh.undo());
        Check.badState("restoreSnapshot", () -> fresh.restoreSnapshot());
        same(fresh, new BeggarKings());
        TurnEdges.toTurn(fresh, 9960);
        Check.badState("passTurns", () -> fresh.passTurns(41));
        Check.same("turn after turns that did not pass", fresh.turn(), 9960);
    }

    private static void same(BeggarKings x, BeggarKings twin) {
        Check.same("state", Check.state(x), Check.state(twin));
        Check.same("undoableCount", x.undoableCount(), twin.undoableCount());
        Check.same("errorCode", x.errorCode(), twin.errorCode());
        Check.same("errorOffset", x.errorOffset(), twin.errorOffset());
        for (int index = 0; index < 4; index++) {
            Check.same("outputByte " + index, byteOf(x, index), byteOf(twin, index));
        }
    }

    private static int byteOf(BeggarKings x, int index) {
        try {
            return x.outputByte(index);
        } catch (IndexOutOfBoundsException e) {
            return -1;
        }
    }

    private static void theFirstExceptionIsThrown() {
        Document.terms("If several exceptions apply, the one listed first in the documentation of the method is thrown.");
        BeggarKings x = ready();
        int none = 5;
        Check.noPerson("bowTo: nobody, twice", () -> x.bowTo(none, none));
        Check.noPerson("bowTo: nobody, twice", () -> x.bowTo(-1, -1));
        Check.noPerson("royalHolder: nobody is no king", () -> x.royalHolder(none));
        Check.noPerson("isRoyalCoinEast: nobody is no king", () -> x.isRoyalCoinEast(none) ? 1 : 0);
        Check.noPerson("isCounted: nobody is no king", () -> x.isCounted(none) ? 1 : 0);
        Check.noPerson("dropCoins: nobody, a wrong number", () -> x.dropCoins(none, 0));
        Check.noPerson("dropCoins: nobody, who has fewer", () -> x.dropCoins(none, 999));
        Check.badArgument("dropCoins: a wrong number of which there are fewer", () -> x.dropCoins(0, 1000));
        Check.badState("dropCoins: fewer", () -> x.dropCoins(0, 999));
        Check.noPerson("pickCoins: nobody, a wrong number", () -> x.pickCoins(none, 1000));
        Check.badArgument("pickCoins: a wrong number of which there are fewer", () -> x.pickCoins(0, 1000));
        Check.badState("pickCoins: fewer", () -> x.pickCoins(0, 999));
        Check.noPerson("layRoyalCoin: nobody, a beggar", () -> x.layRoyalCoin(none, 1));
        Check.noPerson("layRoyalCoin: somebody, nobody", () -> x.layRoyalCoin(1, none));
        Check.noPerson("layRoyalCoin: nobody, who holds nothing", () -> x.layRoyalCoin(none, 0));
        Check.badArgument("layRoyalCoin: a beggar's, which nobody holds", () -> x.layRoyalCoin(1, 2));
        Check.badState("layRoyalCoin: not held", () -> x.layRoyalCoin(1, 0));
        Check.noPerson("liftRoyalCoin: nobody, a beggar", () -> x.liftRoyalCoin(none, 1));
        Check.noPerson("liftRoyalCoin: somebody, nobody", () -> x.liftRoyalCoin(1, none));
        Check.badArgument("liftRoyalCoin: a beggar's, which does not lie there", () -> x.liftRoyalCoin(1, 2));
        Check.badState("liftRoyalCoin: not there", () -> x.liftRoyalCoin(1, 3));
        Check.noPerson("swapRags: nobody, twice", () -> x.swapRags(none, none));
        Check.noPerson("swapRags: nobody, over the river", () -> x.swapRags(3, none));
        Check.badArgument("swapRags: somebody, twice", () -> x.swapRags(3, 3));
        Check.noPerson("joinQueue: nobody, a wrong offer", () -> x.joinQueue(none, 100));
        Check.badArgument("joinQueue: a wrong offer of one who queues", () -> x.joinQueue(1, 100));
        Check.badState("joinQueue: one who queues", () -> x.joinQueue(1, 99));
        Check.noPerson("quitQueue: nobody, who does not queue", () -> x.quitQueue(none));
        Check.noPerson("setPride: nobody, a wrong pride", () -> x.setPride(none, 41));
        TurnEdges.toTurn(x, 10000);
        Check.badArgument("passTurns: too many, beyond the end", () -> x.passTurns(51));
        Check.badArgument("passTurns: too few, beyond the end", () -> x.passTurns(0));
        Check.badArgument("passTurns: far too many, beyond the end", () -> x.passTurns(Integer.MAX_VALUE));
        Check.badState("passTurns: beyond the end", () -> x.passTurns(50));
    }

    private static void fiveHundredAndTwelveCalls() {
        Document.cite("What it is", "An object is used for at most 512 calls after it has been made; what later calls answer is free.");
        BeggarKings x = new BeggarKings();
        for (int call = 1; call <= 511; call++) {
            x.setPride(0, call % 41);
        }
        Check.same("call 512, a change", x.setPride(0, 5), 511 % 41);
        BeggarKings y = new BeggarKings();
        for (int call = 1; call <= 504; call++) {
            y.passTurns(1);
        }
        for (int call = 505; call <= 511; call++) {
            y.undo();
        }
        Check.same("call 512, an undo", y.undo(), 0);
        BeggarKings z = new BeggarKings();
        z.joinQueue(0, 99);
        for (int call = 2; call <= 510; call++) {
            z.turnsUntilCrossing(4);
        }
        z.writeQueue(false);
        Check.same("call 512, a byte", z.outputByte(3), '9');
        BeggarKings w = new BeggarKings();
        for (int call = 1; call <= 511; call++) {
            w.appendText(0x20202020, 0x20202020, 0x20202020, 0x20202020, 0x20202020);
        }
        Check.same("call 512, a script of blanks", w.runScript(500), 0);
        BeggarKings v = new BeggarKings();
        for (int call = 1; call <= 511; call++) {
            Check.noPerson("call " + call, () -> v.coins(5));
        }
        Check.same("call 512, after refused ones", v.coins(0), 40);
    }
}
