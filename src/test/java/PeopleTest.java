/** Promises 6 to 21: the game and its people. */
public final class PeopleTest {
    private static final int[] NO_NUMBERS = {-1, 5, 10, 100, Integer.MIN_VALUE, Integer.MAX_VALUE};

    public static void main(String[] args) {
        theGameIsTold();
        theTurnReaches10000();
        peopleOfAThreePersonGame();
        coinsMove();
        ragsAreSwapped();
        crossingsAreCounted();
        theRichestHasTheSmallestNumber();
        thereIsNoSuchPerson();
        Check.finish();
    }

    private static void theGameIsTold() {
        BeggarKings x = new BeggarKings();
        Check.same("turn", x.turn(), 0);
        Check.same("limitAngle", x.limitAngle(), 30);
        Check.same("tollBox", x.tollBox(), 0);
        Check.same("personCount", x.personCount(), 5);
        Check.same("kingCount", x.kingCount(), 2);
        Check.same("bankCount west", x.bankCount(false), 3);
        Check.same("bankCount east", x.bankCount(true), 2);
        x.joinQueue(0, 5);
        x.joinQueue(1, 0);
        Check.same("bankCount west, in the queue or not", x.bankCount(false), 3);
        x.passTurns(1);
        Check.same("turn", x.turn(), 1);
        Check.same("bankCount west", x.bankCount(false), 2);
        Check.same("bankCount east", x.bankCount(true), 3);
        Check.same("tollBox", x.tollBox(), 14);
        Check.same("personCount", x.personCount(), 5);
        Check.same("kingCount", x.kingCount(), 2);
    }

    private static void theTurnReaches10000() {
        BeggarKings x = atTheEnd();
        Check.same("turn", x.turn(), 10000);
        Check.badState("passTurns beyond the end", () -> x.passTurns(1));
        Check.same("turn", x.turn(), 10000);
    }

    static BeggarKings atTheEnd() {
        BeggarKings x = new BeggarKings();
        for (int i = 0; i < 200; i++) {
            x.passTurns(50);
        }
        return x;
    }

    private static void peopleOfAThreePersonGame() {
        BeggarKings x = Check.loaded("game 1 2 3 4;beggar east 4 5 6;beggar east 7 8 9;beggar east 7 8 9;bridge 1 0 1;");
        Check.same("personCount", x.personCount(), 3);
        Check.same("kingCount", x.kingCount(), 0);
        Check.same("bankCount west", x.bankCount(false), 0);
        Check.same("bankCount east", x.bankCount(true), 3);
        Check.noPerson("isKing(3)", () -> x.isKing(3) ? 1 : 0);
        Check.noPerson("rank(3)", () -> x.rank(3));
        BeggarKings y = Check.loaded("game 1 2 3 4;king west 4 5 6;king west 7 8 9;king west 7 8 9;bridge 1 0 1;");
        Check.same("kingCount", y.kingCount(), 3);
        Check.same("bankCount west", y.bankCount(false), 3);
    }

    private static void coinsMove() {
        BeggarKings x = new BeggarKings();
        x.dropCoins(0, 7);
        x.dropCoins(3, 5);
        Check.same("groundCoins west", x.groundCoins(false), 7);
        Check.same("groundCoins east", x.groundCoins(true), 5);
        Check.same("coins 0", x.coins(0), 33);
        Check.same("coins 3", x.coins(3), 20);
        x.pickCoins(1, 7);
        Check.same("groundCoins west", x.groundCoins(false), 0);
        Check.same("coins 1", x.coins(1), 19);
        x.setPride(1, 33);
        Check.same("pride 1", x.pride(1), 33);
        Check.same("pride 2", x.pride(2), 5);
    }

    private static void ragsAreSwapped() {
        BeggarKings x = new BeggarKings();
        x.swapRags(0, 1);
        x.swapRags(2, 0);
        int[] rags = {2, 0, 1, 3, 4};
        int[] ranks = {20, 5, 40, 0, 15};
        for (int p = 0; p < 5; p++) {
            Check.same("rags " + p, x.rags(p), rags[p]);
            Check.same("wearer " + rags[p], x.wearer(rags[p]), p);
            Check.same("rank " + p, x.rank(p), ranks[p]);
        }
    }

    private static void crossingsAreCounted() {
        BeggarKings x = new BeggarKings();
        x.joinQueue(0, 0);
        x.passTurns(1);
        Check.same("crossings 0", x.crossings(0), 1);
        Check.same("isEast 0", x.isEast(0), true);
        x.joinQueue(0, 0);
        x.joinQueue(4, 9);
        x.passTurns(1);
        Check.same("crossings 0", x.crossings(0), 2);
        Check.same("isEast 0", x.isEast(0), false);
        Check.same("crossings 4, who was turned away", x.crossings(4), 0);
        Check.same("isEast 4, who was turned away", x.isEast(4), true);
        Check.same("crossings 1", x.crossings(1), 0);
    }

    private static void theRichestHasTheSmallestNumber() {
        BeggarKings x = new BeggarKings();
        Check.same("richest", x.richest(), 0);
        x.dropCoins(0, 28);
        Check.same("richest", x.richest(), 3);
        x.pickCoins(1, 13);
        Check.same("richest of 1 and 3, who have 25 each", x.richest(), 1);
        x.pickCoins(2, 15);
        Check.same("richest", x.richest(), 1);
        x.dropCoins(1, 25);
        x.dropCoins(3, 25);
        x.dropCoins(4, 9);
        Check.same("richest", x.richest(), 2);
        x.dropCoins(0, 12);
        x.dropCoins(2, 18);
        Check.same("richest of people without coins", x.richest(), 0);
    }

    private static void thereIsNoSuchPerson() {
        BeggarKings x = new BeggarKings();
        for (int no : NO_NUMBERS) {
            Check.noPerson("isKing " + no, () -> x.isKing(no) ? 1 : 0);
            Check.noPerson("isEast " + no, () -> x.isEast(no) ? 1 : 0);
            Check.noPerson("coins " + no, () -> x.coins(no));
            Check.noPerson("pride " + no, () -> x.pride(no));
            Check.noPerson("rags " + no, () -> x.rags(no));
            Check.noPerson("rank " + no, () -> x.rank(no));
            Check.noPerson("wearer " + no, () -> x.wearer(no));
            Check.noPerson("crossings " + no, () -> x.crossings(no));
        }
    }
}
