/** Promises 60 to 63: undo and the snapshot. */
public final class HistoryTest {
    public static void main(String[] args) {
        everyChangeCanBeUndone();
        aLaidCoinGoesBackToItsBank();
        theLatestEightChangesAreKept();
        changesThatAlterNothingCount();
        undoLeavesTheRest();
        aSnapshotIsKept();
        aSnapshotClearsTheHistory();
        theSnapshotIsNoChange();
        thereIsNothingToUndoOrRestore();
        Check.finish();
    }

    private static void everyChangeCanBeUndone() {
        BeggarKings x = new BeggarKings();
        x.joinQueue(0, 3);
        x.joinQueue(2, 3);
        x.joinQueue(4, 1);
        x.dropCoins(1, 5);
        x.layRoyalCoin(0, 0);
        String before = Check.state(x);
        Check.Call[] changes = {
            () -> x.dropCoins(0, 3), () -> x.pickCoins(2, 5), () -> x.layRoyalCoin(3, 3), () -> x.liftRoyalCoin(1, 0),
            () -> x.swapRags(0, 1), () -> x.joinQueue(1, 3), () -> x.quitQueue(0), () -> x.setPride(0, 1),
            () -> x.passTurns(7), () -> Check.run(x, "turn 2;lift 1 0;swap 1 2;pride 3 3;quit 2;turn 1;")};
        for (int i = 0; i < changes.length; i++) {
            int undoable = x.undoableCount();
            changes[i].run();
            Check.isTrue("change " + i + " alters the game", !Check.state(x).equals(before));
            Check.same("undoableCount after " + i, x.undoableCount(), undoable + 1);
            Check.same("undo " + i, x.undo(), undoable);
            Check.same("state after undo " + i, Check.state(x), before);
        }
        Check.isTrue("the order of the queue is compared", before.contains("queue 0 2"));
    }

    private static void aLaidCoinGoesBackToItsBank() {
        BeggarKings x = new BeggarKings();
        x.layRoyalCoin(0, 0);
        x.saveSnapshot();
        x.liftRoyalCoin(0, 0);
        x.joinQueue(0, 0);
        x.passTurns(1);
        x.layRoyalCoin(0, 0);
        Check.same("isRoyalCoinEast", x.isRoyalCoinEast(0), true);
        for (int i = 0; i < 4; i++) {
            x.undo();
        }
        Check.same("isRoyalCoinEast after the undos", x.isRoyalCoinEast(0), false);
        x.liftRoyalCoin(0, 0);
        x.joinQueue(0, 0);
        x.passTurns(1);
        x.layRoyalCoin(0, 0);
        x.restoreSnapshot();
        Check.same("isRoyalCoinEast of the snapshot", x.isRoyalCoinEast(0), false);
        Check.same("liftRoyalCoin", x.liftRoyalCoin(1, 0), 1);
    }

    private static void theLatestEightChangesAreKept() {
        BeggarKings x = new BeggarKings();
        for (int i = 1; i <= 30; i++) {
            x.setPride(i % 5, i % 7);
            x.passTurns(1);
            Check.same("undoableCount", x.undoableCount(), Math.min(8, 2 * i));
        }
        for (int left = 7; left >= 0; left--) {
            Check.same("undo", x.undo(), left);
            Check.same("turn", x.turn(), 26 + left / 2);
        }
        Check.badState("undo of the ninth", () -> x.undo());
        Check.same("turn", x.turn(), 26);
        x.passTurns(2);
        Check.same("undoableCount", x.undoableCount(), 1);
        Check.same("undo", x.undo(), 0);
        Check.same("turn", x.turn(), 26);
        // the ring goes round once more, with undos in between
        for (int i = 0; i < 20; i++) {
            x.passTurns(1);
            x.passTurns(1);
            x.undo();
        }
        Check.same("turn", x.turn(), 46);
        Check.same("undoableCount: the eighth was lost to a change that was undone", x.undoableCount(), 7);
        for (int left = 6; left >= 0; left--) {
            Check.same("undo", x.undo(), left);
            Check.same("turn", x.turn(), 39 + left);
        }
        Check.badState("undo", () -> x.undo());
    }

    private static void changesThatAlterNothingCount() {
        BeggarKings x = new BeggarKings();
        x.setPride(0, 10);
        x.runScript(0);
        Check.run(x, "drop 9 9;");
        Check.same("undoableCount", x.undoableCount(), 3);
        Check.run(x, "drop");
        Check.same("undoableCount after a parse error", x.undoableCount(), 3);
        Check.badState("quitQueue", () -> x.quitQueue(0));
        Check.same("undoableCount after an exception", x.undoableCount(), 3);
        x.writeQueue(false);
        x.saveSnapshot();
        x.tollBoxAfter(3);
        x.appendText(1, 2, 3, 4, 5);
        Check.same("undoableCount after calls that are no changes", x.undoableCount(), 3);
        Check.load(x, "x");
        Check.same("undoableCount after a game with a parse error", x.undoableCount(), 3);
        Check.load(x, NewGameTest.FIRST_GAME);
        Check.same("undoableCount after a new game", x.undoableCount(), 0);
    }

    private static void undoLeavesTheRest() {
        BeggarKings x = new BeggarKings();
        x.passTurns(1);
        x.saveSnapshot();
        x.joinQueue(2, 10);
        x.writeQueue(false);
        Check.run(x, "turn 99");
        Check.type(x, "turn 5;");
        x.undo();
        x.undo();
        Check.same("turn", x.turn(), 0);
        Check.same("errorCode", x.errorCode(), 2);
        Check.same("errorOffset", x.errorOffset(), 5);
        Check.same("output", Check.output(x, 4), "2:10");
        Check.same("runScript: the buffer is as it was", x.runScript(7), 1);
        Check.same("turn", x.turn(), 5);
        Check.same("restoreSnapshot", x.restoreSnapshot(), 1);
    }

    private static void aSnapshotIsKept() {
        BeggarKings x = new BeggarKings();
        x.joinQueue(0, 3);
        x.joinQueue(4, 3);
        x.dropCoins(1, 5);
        x.layRoyalCoin(3, 3);
        x.passTurns(1);
        x.swapRags(1, 2);
        String kept = Check.state(x);
        x.saveSnapshot();
        for (int i = 0; i < 3; i++) {
            x.pickCoins(1, 5);
            x.liftRoyalCoin(0, 3);
            x.joinQueue(2, i);
            x.setPride(2, i);
            x.passTurns(20);
            Check.same("restoreSnapshot", x.restoreSnapshot(), 1);
            Check.same("state", Check.state(x), kept);
        }
        x.passTurns(1);
        x.saveSnapshot();
        x.passTurns(1);
        Check.same("restoreSnapshot of the later one", x.restoreSnapshot(), 2);
    }

    private static void aSnapshotClearsTheHistory() {
        BeggarKings x = new BeggarKings();
        x.passTurns(1);
        x.saveSnapshot();
        x.passTurns(1);
        Check.same("undoableCount", x.undoableCount(), 2);
        x.restoreSnapshot();
        Check.same("undoableCount after restoreSnapshot", x.undoableCount(), 0);
        Check.badState("undo", () -> x.undo());
        x.passTurns(3);
        Check.same("undo", x.undo(), 0);
        Check.same("turn", x.turn(), 1);
    }

    private static void theSnapshotIsNoChange() {
        BeggarKings x = new BeggarKings();
        x.saveSnapshot();
        Check.same("undoableCount", x.undoableCount(), 0);
        x.passTurns(1);
        x.saveSnapshot();
        Check.same("undo", x.undo(), 0);
        Check.same("turn", x.turn(), 0);
        Check.same("restoreSnapshot after an undo", x.restoreSnapshot(), 1);
        Check.load(x, "x");
        Check.same("restoreSnapshot after a faulty game", x.restoreSnapshot(), 1);
        Check.load(x, NewGameTest.FIRST_GAME);
        Check.badState("restoreSnapshot after a new game", () -> x.restoreSnapshot());
    }

    private static void thereIsNothingToUndoOrRestore() {
        BeggarKings x = new BeggarKings();
        Check.badState("undo", () -> x.undo());
        Check.badState("restoreSnapshot", () -> x.restoreSnapshot());
        x.joinQueue(1, 1);
        Check.badState("restoreSnapshot", () -> x.restoreSnapshot());
        Check.same("queueLength", x.queueLength(false), 1);
    }
}
