/** Promises 30 to 35: royal coins. */
public final class RoyalCoinTest {
    public static void main(String[] args) {
        eachKingHoldsItsOwn();
        aCoinIsLaidAndLifted();
        aCoinIsCountedWhenItIsCarriedPast();
        allCoinsOfACarrierAreCounted();
        theShareWithoutKings();
        thereIsNoSuchKing();
        Check.finish();
    }

    private static void eachKingHoldsItsOwn() {
        BeggarKings x = new BeggarKings();
        Check.same("royalHolder 0", x.royalHolder(0), 0);
        Check.same("royalHolder 3", x.royalHolder(3), 3);
        Check.same("isRoyalCoinEast 0", x.isRoyalCoinEast(0), false);
        Check.same("isRoyalCoinEast 3", x.isRoyalCoinEast(3), true);
        Check.same("isCounted 0", x.isCounted(0), false);
        int[] held = {1, 0, 0, 1, 0};
        for (int p = 0; p < 5; p++) {
            Check.same("royalCoins " + p, x.royalCoins(p), held[p]);
        }
        Check.same("countedRoyalCoins", x.countedRoyalCoins(), 0);
        Check.sameReal("countedShare", x.countedShare(), 0.0);
    }

    private static void aCoinIsLaidAndLifted() {
        BeggarKings x = new BeggarKings();
        x.layRoyalCoin(0, 0);
        x.layRoyalCoin(3, 3);
        Check.same("royalHolder 0", x.royalHolder(0), -1);
        Check.same("isRoyalCoinEast 0 on the ground", x.isRoyalCoinEast(0), false);
        Check.same("isRoyalCoinEast 3 on the ground", x.isRoyalCoinEast(3), true);
        x.joinQueue(0, 0);
        x.passTurns(1);
        Check.same("isRoyalCoinEast 0, left behind", x.isRoyalCoinEast(0), false);
        Check.same("isCounted 0, left behind", x.isCounted(0), false);
        x.liftRoyalCoin(0, 3);
        Check.same("royalHolder 3", x.royalHolder(3), 0);
        Check.same("royalCoins 0", x.royalCoins(0), 1);
        x.joinQueue(0, 0);
        x.passTurns(1);
        Check.same("isRoyalCoinEast 3, carried away", x.isRoyalCoinEast(3), false);
        Check.same("isCounted 3", x.isCounted(3), true);
        Check.same("isCounted 0", x.isCounted(0), false);
        x.layRoyalCoin(0, 3);
        Check.same("isRoyalCoinEast 3, laid on the other bank", x.isRoyalCoinEast(3), false);
        Check.badState("liftRoyalCoin 4 3: it lies on the other bank", () -> x.liftRoyalCoin(4, 3));
    }

    private static void aCoinIsCountedWhenItIsCarriedPast() {
        BeggarKings x = new BeggarKings();
        x.joinQueue(0, 99);
        x.passTurns(1);
        Check.same("isCounted 0 of a person who is turned away", x.isCounted(0), false);
        x.passTurns(1);
        x.joinQueue(0, 0);
        x.passTurns(1);
        Check.same("isCounted 0", x.isCounted(0), true);
        Check.same("isCounted 3", x.isCounted(3), false);
        Check.same("countedRoyalCoins", x.countedRoyalCoins(), 1);
        Check.sameReal("countedShare", x.countedShare(), 0.5f);
        x.joinQueue(0, 0);
        x.passTurns(1);
        Check.same("countedRoyalCoins after the way back", x.countedRoyalCoins(), 1);
        x.layRoyalCoin(0, 0);
        Check.same("isCounted 0 on the ground", x.isCounted(0), true);
    }

    private static void allCoinsOfACarrierAreCounted() {
        BeggarKings x = Check.loaded("game 0 0 0 0;king west 0 0 0;beggar west 0 0 0;king west 0 0 0;king west 0 0 0;bridge 1 0 1;");
        for (int king : new int[] {0, 2}) {
            x.layRoyalCoin(king, king);
            x.liftRoyalCoin(1, king);
        }
        Check.same("royalCoins 1", x.royalCoins(1), 2);
        x.joinQueue(1, 0);
        x.passTurns(1);
        Check.same("isCounted 0", x.isCounted(0), true);
        Check.same("isCounted 2", x.isCounted(2), true);
        Check.same("isCounted 3", x.isCounted(3), false);
        Check.same("countedRoyalCoins", x.countedRoyalCoins(), 2);
        Check.sameReal("countedShare", x.countedShare(), 2.0f / 3.0f);
        x.joinQueue(3, 0);
        x.passTurns(2);
        Check.same("countedRoyalCoins", x.countedRoyalCoins(), 3);
        Check.sameReal("countedShare", x.countedShare(), 1.0f);
    }

    private static void theShareWithoutKings() {
        BeggarKings x = Check.loaded("game 0 0 0 0;beggar west 0 0 0;beggar west 0 0 0;beggar west 0 0 0;bridge 1 0 1;");
        x.joinQueue(0, 0);
        x.passTurns(1);
        Check.same("countedRoyalCoins", x.countedRoyalCoins(), 0);
        Check.sameReal("countedShare", x.countedShare(), 0.0f);
    }

    private static void thereIsNoSuchKing() {
        BeggarKings x = new BeggarKings();
        for (int no : new int[] {-1, 5, 10, Integer.MIN_VALUE, Integer.MAX_VALUE}) {
            Check.noPerson("royalHolder " + no, () -> x.royalHolder(no));
            Check.noPerson("isRoyalCoinEast " + no, () -> x.isRoyalCoinEast(no) ? 1 : 0);
            Check.noPerson("isCounted " + no, () -> x.isCounted(no) ? 1 : 0);
            Check.noPerson("royalCoins " + no, () -> x.royalCoins(no));
        }
        for (int beggar : new int[] {1, 2, 4}) {
            Check.badArgument("royalHolder " + beggar, () -> x.royalHolder(beggar));
            Check.badArgument("isRoyalCoinEast " + beggar, () -> x.isRoyalCoinEast(beggar) ? 1 : 0);
            Check.badArgument("isCounted " + beggar, () -> x.isCounted(beggar) ? 1 : 0);
        }
    }
}
