/** Promises 48 to 56: changes, and what happens when turns pass. */
public final class ChangeTest {
    private static final int[] NO_NUMBERS = {-1, 5, 10, Integer.MIN_VALUE, Integer.MAX_VALUE};

    public static void main(String[] args) {
        coinsAreDroppedAndPicked();
        royalCoinsAreLaidAndLifted();
        ragsAreSwapped();
        queuesAreJoinedAndQuitted();
        prideIsSet();
        turnsPass();
        theLimitIsLearnt();
        theLimitChangesWithinATurn();
        theTurnedAwayTakeUpNoRoom();
        peopleWhoArriveDoNotQueue();
        theLastTurns();
        exceptionsComeInTheirOrder();
        refusedChangesChangeNothing();
        Check.finish();
    }

    private static void coinsAreDroppedAndPicked() {
        BeggarKings x = new BeggarKings();
        Check.same("dropCoins 0 1", x.dropCoins(0, 1), 1);
        Check.same("dropCoins 1 12: all", x.dropCoins(1, 12), 13);
        Check.same("dropCoins 4 9 on the other bank", x.dropCoins(4, 9), 9);
        Check.badState("dropCoins 1 1 of nothing", () -> x.dropCoins(1, 1));
        Check.badState("dropCoins 0 40 of 39", () -> x.dropCoins(0, 40));
        Check.same("pickCoins 2 3", x.pickCoins(2, 3), 6);
        Check.badState("pickCoins 2 11 of 10", () -> x.pickCoins(2, 11));
        Check.same("pickCoins 2 10", x.pickCoins(2, 10), 16);
        Check.badState("pickCoins 2 1 of nothing", () -> x.pickCoins(2, 1));
        Check.same("pickCoins 3 9", x.pickCoins(3, 9), 34);
        BeggarKings y = Check.loaded("game 0 0 0 0;" + "beggar west 999 0 0;".repeat(10) + "bridge 1 0 1;");
        for (int p = 0; p < 10; p++) {
            Check.same("dropCoins " + p + " 999", y.dropCoins(p, 999), 999 * (p + 1));
        }
        for (int i = 1; i <= 10; i++) {
            Check.same("pickCoins 0 999", y.pickCoins(0, 999), 999 * i);
        }
        for (int no : NO_NUMBERS) {
            Check.noPerson("dropCoins " + no, () -> x.dropCoins(no, 1));
            Check.noPerson("pickCoins " + no, () -> x.pickCoins(no, 1));
        }
        for (int coins : new int[] {0, -1, 1000, Integer.MIN_VALUE, Integer.MAX_VALUE}) {
            Check.badArgument("dropCoins 0 " + coins, () -> x.dropCoins(0, coins));
            Check.badArgument("pickCoins 0 " + coins, () -> x.pickCoins(0, coins));
        }
    }

    private static void royalCoinsAreLaidAndLifted() {
        BeggarKings x = new BeggarKings();
        Check.badState("layRoyalCoin 1 0: 0 holds it", () -> x.layRoyalCoin(1, 0));
        Check.badState("liftRoyalCoin 1 0: 0 holds it", () -> x.liftRoyalCoin(1, 0));
        Check.badState("liftRoyalCoin 0 0: 0 holds it", () -> x.liftRoyalCoin(0, 0));
        Check.same("layRoyalCoin 0 0", x.layRoyalCoin(0, 0), 0);
        Check.badState("layRoyalCoin 0 0: it lies", () -> x.layRoyalCoin(0, 0));
        Check.badState("liftRoyalCoin 3 0: the other bank", () -> x.liftRoyalCoin(3, 0));
        Check.same("liftRoyalCoin 2 0", x.liftRoyalCoin(2, 0), 1);
        Check.badState("liftRoyalCoin 1 0: 2 holds it", () -> x.liftRoyalCoin(1, 0));
        x.joinQueue(2, 0);
        x.passTurns(1);
        x.layRoyalCoin(3, 3);
        Check.same("liftRoyalCoin 2 3", x.liftRoyalCoin(2, 3), 2);
        Check.same("layRoyalCoin 2 0", x.layRoyalCoin(2, 0), 1);
        Check.same("liftRoyalCoin 3 0", x.liftRoyalCoin(3, 0), 1);
        Check.same("layRoyalCoin 2 3", x.layRoyalCoin(2, 3), 0);
        Check.badState("liftRoyalCoin 0 3: the other bank", () -> x.liftRoyalCoin(0, 3));
        for (int no : NO_NUMBERS) {
            Check.noPerson("layRoyalCoin " + no + " 0", () -> x.layRoyalCoin(no, 0));
            Check.noPerson("layRoyalCoin 0 " + no, () -> x.layRoyalCoin(0, no));
            Check.noPerson("liftRoyalCoin " + no + " 0", () -> x.liftRoyalCoin(no, 0));
            Check.noPerson("liftRoyalCoin 0 " + no, () -> x.liftRoyalCoin(0, no));
        }
        for (int beggar : new int[] {1, 2, 4}) {
            Check.badArgument("layRoyalCoin 0 " + beggar, () -> x.layRoyalCoin(0, beggar));
            Check.badArgument("liftRoyalCoin 0 " + beggar, () -> x.liftRoyalCoin(0, beggar));
        }
    }

    private static void ragsAreSwapped() {
        BeggarKings x = new BeggarKings();
        Check.same("swapRags 0 2", x.swapRags(0, 2), 2);
        Check.same("swapRags 1 0", x.swapRags(1, 0), 2);
        Check.same("swapRags 1 2", x.swapRags(1, 2), 0);
        Check.same("swapRags 3 4", x.swapRags(3, 4), 4);
        Check.badState("swapRags over the river", () -> x.swapRags(0, 3));
        Check.badState("swapRags over the river", () -> x.swapRags(4, 2));
        x.joinQueue(0, 0);
        x.joinQueue(1, 3);
        Check.same("swapRags in the queue", x.swapRags(0, 1), 0);
        for (int no : NO_NUMBERS) {
            Check.noPerson("swapRags " + no + " 0", () -> x.swapRags(no, 0));
            Check.noPerson("swapRags 0 " + no, () -> x.swapRags(0, no));
            Check.noPerson("swapRags " + no + " " + no, () -> x.swapRags(no, no));
        }
        for (int p = 0; p < 5; p++) {
            int person = p;
            Check.badArgument("swapRags " + p + " " + p, () -> x.swapRags(person, person));
        }
    }

    private static void queuesAreJoinedAndQuitted() {
        BeggarKings x = new BeggarKings();
        Check.same("joinQueue 0 0", x.joinQueue(0, 0), 0);
        Check.same("joinQueue 1 99", x.joinQueue(1, 99), 0);
        Check.same("joinQueue 2 0", x.joinQueue(2, 0), 2);
        Check.same("joinQueue 3 50", x.joinQueue(3, 50), 0);
        Check.badState("joinQueue 0 again", () -> x.joinQueue(0, 0));
        Check.badState("joinQueue 3 again", () -> x.joinQueue(3, 99));
        Check.same("quitQueue 1", x.quitQueue(1), 99);
        Check.same("quitQueue 0", x.quitQueue(0), 0);
        Check.badState("quitQueue 0 again", () -> x.quitQueue(0));
        Check.badState("quitQueue 4, who does not queue", () -> x.quitQueue(4));
        Check.same("quitQueue 3", x.quitQueue(3), 50);
        Check.same("joinQueue 0 again", x.joinQueue(0, 7), 0);
        Check.same("queueLength", x.queueLength(false), 2);
        for (int no : NO_NUMBERS) {
            Check.noPerson("joinQueue " + no, () -> x.joinQueue(no, 0));
            Check.noPerson("quitQueue " + no, () -> x.quitQueue(no));
        }
        for (int offer : new int[] {-1, 100, Integer.MIN_VALUE, Integer.MAX_VALUE}) {
            Check.badArgument("joinQueue 1 " + offer, () -> x.joinQueue(1, offer));
        }
    }

    private static void prideIsSet() {
        BeggarKings x = new BeggarKings();
        Check.same("setPride 0 40", x.setPride(0, 40), 10);
        Check.same("setPride 0 0", x.setPride(0, 0), 40);
        Check.same("setPride 0 0 again", x.setPride(0, 0), 0);
        Check.same("pride", x.pride(0), 0);
        for (int no : NO_NUMBERS) {
            Check.noPerson("setPride " + no, () -> x.setPride(no, 0));
        }
        for (int pride : new int[] {-1, 41, Integer.MIN_VALUE, Integer.MAX_VALUE}) {
            Check.badArgument("setPride 0 " + pride, () -> x.setPride(0, pride));
        }
    }

    private static void turnsPass() {
        BeggarKings x = new BeggarKings();
        x.joinQueue(0, 5);
        x.joinQueue(1, 5);
        x.joinQueue(2, 1);
        x.joinQueue(3, 0);
        x.joinQueue(4, 0);
        Check.same("passTurns 1", x.passTurns(1), 1);
        Check.same("coins 0: 40 - 9 - 5", x.coins(0), 26);
        Check.same("tollBox", x.tollBox(), 14);
        Check.same("passTurns 1 with room for 3", x.passTurns(1), 2);
        Check.same("coins 3", x.coins(3), 16);
        Check.same("coins 4", x.coins(4), 7);
        Check.same("isEast 3", x.isEast(3), false);
        Check.same("passTurns 50", x.passTurns(50), 2);
        Check.same("turn", x.turn(), 52);
        Check.same("coins 1", x.coins(1), 5);
        Check.same("coins 2", x.coins(2), 0);
        Check.same("tollBox", x.tollBox(), 14 + 9 + 2 + 7 + 3);
        Check.same("passTurns with empty queues", x.passTurns(3), 0);
        for (int turns : new int[] {0, -1, 51, 100, Integer.MIN_VALUE, Integer.MAX_VALUE}) {
            Check.badArgument("passTurns " + turns, () -> x.passTurns(turns));
        }
    }

    private static void theLimitIsLearnt() {
        String people = "king west 9 0 0;beggar west 9 40 50;beggar west 9 0 0;bridge 1 0 1;";
        BeggarKings x = Check.loaded("game 9 5 1 1;" + people);
        x.joinQueue(1, 0);
        x.passTurns(2);
        Check.same("limitAngle after a beggar taken for a king", x.limitAngle(), 4);
        x.undo();
        x.undo();
        x.joinQueue(0, 0);
        x.passTurns(2);
        Check.same("limitAngle after a king taken for a beggar", x.limitAngle(), 14);
        x.joinQueue(2, 0);
        x.passTurns(2);
        Check.same("limitAngle after a beggar taken for a beggar", x.limitAngle(), 14);
        BeggarKings y = Check.loaded("game 3 5 1 1;" + people);
        y.joinQueue(1, 0);
        y.passTurns(1);
        Check.same("limitAngle not below 0", y.limitAngle(), 0);
        BeggarKings z = Check.loaded("game 89 5 1 1;" + people);
        z.joinQueue(0, 0);
        z.passTurns(2);
        Check.same("limitAngle after a king taken for a king", z.limitAngle(), 89);
        BeggarKings w = Check.loaded("game 40 9 1 1;" + people);
        w.joinQueue(0, 0);
        w.passTurns(1);
        Check.same("limitAngle 40 + 9", w.limitAngle(), 49);
        BeggarKings v = Check.loaded("game 3 5 9 9;king west 8 0 0;beggar west 8 40 50;beggar west 9 0 0;bridge 1 0 3;");
        v.joinQueue(0, 0);
        v.joinQueue(1, 0);
        v.passTurns(1);
        Check.same("limitAngle after people who are turned away", v.limitAngle(), 3);
    }

    private static void theLimitChangesWithinATurn() {
        // a beggar who bows 30 comes after two who bow 0: the limit is 40, then 31, then 22
        String text = "game 40 9 7 1;beggar west 9 40 50;beggar west 9 40 50;beggar west 9 30 20;bridge 1 0 W;bridge 1 0 1;";
        for (int width = 1; width <= 3; width++) {
            BeggarKings x = Check.loaded(text.replace("W", "" + width));
            for (int p = 0; p < 3; p++) {
                x.joinQueue(p, 0);
            }
            Check.same("tollOf 2 before", x.tollOf(2), 7);
            x.passTurns(1);
            Check.same("coins 0", x.coins(0), 2);
            Check.same("coins 1", x.coins(1), 2);
            Check.same("coins 2 with width " + width, x.coins(2), width == 1 ? 9 : 8);
            Check.same("limitAngle", x.limitAngle(), 22);
        }
    }

    private static void theTurnedAwayTakeUpNoRoom() {
        BeggarKings x = Check.loaded("game 0 0 0 5;" + "beggar west 4 0 0;".repeat(3) + "beggar west 5 0 0;beggar west 6 0 0;beggar west 9 0 0;bridge 2 0 1;");
        for (int p = 0; p < 6; p++) {
            x.joinQueue(p, 0);
        }
        Check.same("passTurns 1", x.passTurns(1), 1);
        Check.same("isEast 3, who has just the price", x.isEast(3), true);
        Check.same("coins 3", x.coins(3), 0);
        Check.same("queueLength: the turned away have left", x.queueLength(false), 2);
        for (int p = 0; p < 3; p++) {
            Check.same("coins " + p, x.coins(p), 4);
            Check.same("offer " + p, x.offer(p), -1);
            Check.same("isEast " + p, x.isEast(p), false);
            Check.same("crossings " + p, x.crossings(p), 0);
        }
        Check.same("tollBox", x.tollBox(), 5);
        x.quitQueue(4);
        x.joinQueue(4, 2);
        Check.same("passTurns 2: the offer is too much for 4", x.passTurns(2), 1);
        Check.same("isEast 4", x.isEast(4), false);
        Check.same("isEast 5", x.isEast(5), true);
    }

    private static void peopleWhoArriveDoNotQueue() {
        BeggarKings x = new BeggarKings();
        x.joinQueue(0, 0);
        x.passTurns(2);
        Check.same("isEast 0: nobody goes back alone", x.isEast(0), true);
        Check.same("queueLength", x.queueLength(true), 0);
        Check.same("joinQueue on the other bank", x.joinQueue(0, 0), 0);
        Check.same("queued", x.queued(true, 0), 0);
    }

    private static void theLastTurns() {
        BeggarKings x = PeopleTest.atTheEnd();
        Check.badState("passTurns 1 at the end", () -> x.passTurns(1));
        Check.badState("passTurns 50 at the end", () -> x.passTurns(50));
        Check.badArgument("passTurns 51 at the end", () -> x.passTurns(51));
        Check.badArgument("passTurns 0 at the end", () -> x.passTurns(0));
        x.undo();
        x.passTurns(40);
        Check.badState("passTurns 11 in turn 9990", () -> x.passTurns(11));
        Check.same("turn", x.turn(), 9990);
        x.passTurns(9);
        Check.badState("passTurns 2 in turn 9999", () -> x.passTurns(2));
        x.joinQueue(3, 0);
        Check.same("passTurns 1 in turn 9999", x.passTurns(1), 1);
        Check.same("turn", x.turn(), 10000);
        Check.same("dropCoins at the end", x.dropCoins(0, 1), 1);
        Check.same("joinQueue at the end", x.joinQueue(0, 1), 0);
    }

    private static void exceptionsComeInTheirOrder() {
        BeggarKings x = new BeggarKings();
        Check.noPerson("dropCoins 5 0", () -> x.dropCoins(5, 0));
        Check.noPerson("pickCoins -1 1000", () -> x.pickCoins(-1, 1000));
        Check.badArgument("dropCoins 2 1000", () -> x.dropCoins(2, 1000));
        Check.badArgument("pickCoins 2 1000", () -> x.pickCoins(2, 1000));
        Check.noPerson("layRoyalCoin 5 1", () -> x.layRoyalCoin(5, 1));
        Check.badArgument("layRoyalCoin 2 1", () -> x.layRoyalCoin(2, 1));
        Check.noPerson("liftRoyalCoin 5 1", () -> x.liftRoyalCoin(5, 1));
        Check.badArgument("liftRoyalCoin 2 1", () -> x.liftRoyalCoin(2, 1));
        x.joinQueue(0, 0);
        Check.noPerson("joinQueue 5 100", () -> x.joinQueue(5, 100));
        Check.badArgument("joinQueue 0 100", () -> x.joinQueue(0, 100));
        Check.badState("joinQueue 0 99", () -> x.joinQueue(0, 99));
        Check.noPerson("setPride 5 41", () -> x.setPride(5, 41));
    }

    private static void refusedChangesChangeNothing() {
        BeggarKings x = new BeggarKings();
        x.joinQueue(0, 0);
        String before = Check.state(x);
        Check.badState("dropCoins", () -> x.dropCoins(2, 4));
        Check.badState("pickCoins", () -> x.pickCoins(2, 4));
        Check.badState("layRoyalCoin", () -> x.layRoyalCoin(2, 0));
        Check.badState("liftRoyalCoin", () -> x.liftRoyalCoin(2, 0));
        Check.badState("swapRags", () -> x.swapRags(2, 3));
        Check.badState("joinQueue", () -> x.joinQueue(0, 3));
        Check.badState("quitQueue", () -> x.quitQueue(1));
        Check.badArgument("setPride", () -> x.setPride(1, 41));
        Check.badArgument("passTurns", () -> x.passTurns(51));
        Check.badArgument("runScript", () -> x.runScript(1));
        Check.same("state", Check.state(x), before);
        Check.same("undoableCount", x.undoableCount(), 1);
    }
}
