/** The sentences of the terms about turns, each at both sides of the boundaries that it names. */
final class TurnEdges {
    private static final String BRIDGE = "bridge 1 0 1;";
    private static final String POOR = "beggar west 0 0 0;";
    /** A beggar whose bow is 0 deep, and a king whose bow is 40 deep, the deepest of a king. */
    private static final String PROUD_BEGGAR = "beggar west 9 40 50;";
    private static final String HUMBLE_KING = "king west 9 0 0;";

    private TurnEdges() {
    }

    static void run() {
        turnsEndAt9999();
        theCurrentTurnIsTheNext();
        banksTakeTurns();
        bridgesAreUsedInOrder();
        widthsAreTheMost();
        fullBridgesAndEmptyQueues();
        thePriceIsTollPlusOffer();
        fewerCoinsThanThePrice();
        thePriceIsPaid();
        royalCoinsAreCounted();
        theLimitFallsTo0();
        theLimitRises();
        theTurnedAwayTeachNothing();
        arrivalsDoNotQueue();
        theTurnEnds();
    }

    private static BeggarKings game(String header, String rest) {
        return TermEdges.game(header, rest);
    }

    static void toTurn(BeggarKings x, int turn) {
        while (x.turn() < turn) {
            x.passTurns(Math.min(50, turn - x.turn()));
        }
    }

    private static void turnsEndAt9999() {
        Document.terms("Turns are numbered from 0 to 9999.");
        BeggarKings x = new BeggarKings();
        Check.same("the first turn", x.turn(), 0);
        toTurn(x, 9999);
        Check.same("the last turn", x.turn(), 9999);
        x.joinQueue(3, 0);
        Check.same("turn 9999 passes", x.passTurns(1), 1);
        Check.same("turn after the last", x.turn(), 10000);
        x.joinQueue(0, 0);
        Check.badState("turn 10000 does not pass", () -> x.passTurns(1));
        Check.same("turn", x.turn(), 10000);
        Check.same("nobody crosses in turn 10000", x.isEast(0), false);
    }

    private static void theCurrentTurnIsTheNext() {
        Document.terms("The current turn is the next one to pass.");
        BeggarKings x = game("0 0 0 0", POOR.repeat(3) + "bridge 5 4 1;");
        x.joinQueue(0, 0);
        for (int turn = 0; turn <= 4; turn++) {
            Check.same("turn", x.turn(), turn);
            Check.same("isOpen", x.isOpen(0), turn == 4);
            Check.same("passTurns of turn " + turn, x.passTurns(1), turn == 4 ? 1 : 0);
        }
    }

    private static void banksTakeTurns() {
        Document.terms("In a turn with an even number people cross from the west bank to the east bank, "
                + "in a turn with an odd number from the east bank to the west bank.");
        for (int turn : new int[] {0, 1, 2, 3, 9998, 9999}) {
            BeggarKings x = game("0 0 0 0", POOR + "beggar east 0 0 0;" + POOR + BRIDGE);
            toTurn(x, turn);
            x.joinQueue(0, 0);
            x.joinQueue(1, 0);
            Check.same("passTurns of turn " + turn, x.passTurns(1), 1);
            Check.same("isEast 0 after turn " + turn, x.isEast(0), turn % 2 == 0);
            Check.same("isEast 1 after turn " + turn, x.isEast(1), turn % 2 == 0);
        }
    }

    private static void bridgesAreUsedInOrder() {
        Document.terms("When a turn passes, the open bridges are used in ascending order.");
        // of the four bridges 0, 2 and 3 are open in turn 0: the first of the queue goes over bridge 0, two over 2, one over 3
        BeggarKings x = game("41 9 5 1", "beggar west 5 40 0;beggar west 5 40 50;beggar west 5 40 0;beggar west 5 40 50;beggar west 5 40 0;"
                + "bridge 1 0 1;bridge 2 1 3;bridge 3 0 2;bridge 4 0 1;");
        for (int p = 0; p < 5; p++) {
            x.joinQueue(p, 0);
        }
        // the limit is 41, then 32, 23, 23 and 14: those who bow 40 deep pay 1 from the second on
        Check.same("passTurns", x.passTurns(1), 4);
        int[] coins = {0, 0, 4, 0, 5};
        for (int p = 0; p < 5; p++) {
            Check.same("coins " + p, x.coins(p), coins[p]);
        }
        Check.same("limitAngle", x.limitAngle(), 14);
        Check.same("the fifth still queues", x.offer(4), 0);
    }

    private static void widthsAreTheMost() {
        Document.terms("On each of them at most as many people cross as its width says.");
        for (int width = 1; width <= 3; width++) {
            for (int second = 0; second <= 3; second++) {
                for (int people = 0; people <= 7; people++) {
                    String bridges = "bridge 1 0 " + width + ";" + (second == 0 ? "bridge 2 1 3;" : "bridge 9 0 " + second + ";");
                    BeggarKings x = game("0 0 0 0", POOR.repeat(8) + bridges);
                    for (int p = 0; p < people; p++) {
                        x.joinQueue(p, 0);
                    }
                    int due = Math.min(people, width + second);
                    Check.same(people + " people on bridges of " + width + " and " + second, x.passTurns(1), due);
                    Check.same("queueLength", x.queueLength(false), people - due);
                }
            }
        }
    }

    private static void fullBridgesAndEmptyQueues() {
        Document.terms("As long as the bridge has room and the queue of the departure bank is not empty, "
                + "the first person of this queue leaves the queue and tries to cross:");
        String people = "beggar west 0 0 0;beggar west 1 0 0;beggar west 0 0 0;beggar west 1 0 0;beggar west 0 0 0;";
        BeggarKings x = game("0 0 1 1", people + BRIDGE);
        for (int p = 0; p < 5; p++) {
            x.joinQueue(p, 0);
        }
        Check.same("passTurns", x.passTurns(1), 1);
        Check.same("offer of the first, who tried", x.offer(0), -1);
        Check.same("offer of the second, who crossed", x.offer(1), -1);
        Check.same("offer of the third: the bridge is full, so he does not try", x.offer(2), 0);
        Check.same("queueLength", x.queueLength(false), 3);
        Check.same("passTurns", x.passTurns(2), 1);
        Check.same("queueLength", x.queueLength(false), 1);
        Check.same("passTurns, with nobody who can pay", x.passTurns(2), 0);
        Check.same("queueLength of the queue that is empty now", x.queueLength(false), 0);
        Check.same("passTurns with empty queues", x.passTurns(4), 0);
        BeggarKings y = game("0 0 1 1", people + "bridge 1 0 3;");
        for (int p = 0; p < 5; p++) {
            y.joinQueue(p, 0);
        }
        Check.same("passTurns with room for three", y.passTurns(1), 2);
        Check.same("queueLength: all have tried", y.queueLength(false), 0);
        BeggarKings z = game("0 0 1 1", people + "bridge 2 1 3;");
        z.joinQueue(0, 0);
        z.joinQueue(1, 0);
        Check.same("passTurns without an open bridge", z.passTurns(1), 0);
        Check.same("queueLength: nobody tries", z.queueLength(false), 2);
        z.passTurns(1);
        Check.same("queueLength in a turn of the other bank", z.queueLength(false), 2);
        BeggarKings w = game("0 0 99 99", POOR.repeat(10) + BRIDGE);
        for (int p = 0; p < 10; p++) {
            w.joinQueue(p, p);
        }
        Check.same("passTurns of ten who cannot pay", w.passTurns(1), 0);
        Check.same("queueLength", w.queueLength(false), 0);
    }

    private static void thePriceIsTollPlusOffer() {
        Document.terms("The price is the toll plus the offer.");
        int[][] prices = {{0, 0}, {0, 99}, {99, 0}, {99, 99}, {1, 2}};
        for (int[] price : prices) {
            BeggarKings x = game("0 0 50 " + price[0], "beggar west 200 0 0;" + POOR + POOR + BRIDGE);
            x.joinQueue(0, price[1]);
            x.passTurns(1);
            Check.same("tollBox", x.tollBox(), price[0] + price[1]);
            Check.same("coins", x.coins(0), 200 - price[0] - price[1]);
            // the king toll for one who is taken for a king
            BeggarKings y = game("81 0 " + price[0] + " 50", "beggar west 200 0 0;" + POOR + POOR + BRIDGE);
            y.joinQueue(0, price[1]);
            y.passTurns(1);
            Check.same("tollBox", y.tollBox(), price[0] + price[1]);
        }
    }

    private static void fewerCoinsThanThePrice() {
        Document.terms("A person with fewer copper coins than the price is turned away: the person stays on the departure bank, "
                + "pays nothing, and takes up no room on the bridge.");
        for (int coins = 0; coins <= 14; coins++) {
            BeggarKings x = game("0 0 0 7", "beggar west " + coins + " 0 0;beggar west 7 0 0;" + POOR + BRIDGE);
            x.joinQueue(0, 5);
            x.joinQueue(1, 0);
            boolean pays = coins >= 12;
            Check.same("passTurns with " + coins + " coins for the price 12", x.passTurns(1), 1);
            Check.same("isEast 0", x.isEast(0), pays);
            Check.same("coins 0", x.coins(0), pays ? coins - 12 : coins);
            Check.same("tollBox", x.tollBox(), pays ? 12 : 7);
            Check.same("offer 0, who has left the queue", x.offer(0), -1);
            Check.same("crossings 0", x.crossings(0), pays ? 1 : 0);
            Check.same("isEast 1, for whom there is room if 0 is turned away", x.isEast(1), !pays);
            Check.same("offer 1", x.offer(1), pays ? 0 : -1);
        }
    }

    private static void thePriceIsPaid() {
        Document.terms("Any other person pays the price into the toll box and is on the other bank from then on.");
        BeggarKings x = game("0 0 0 7", "beggar west 7 0 0;beggar east 9 0 0;" + POOR + BRIDGE);
        x.joinQueue(0, 0);
        x.joinQueue(1, 1);
        x.passTurns(2);
        Check.same("coins of one who has just the price", x.coins(0), 0);
        Check.same("coins of one who has more", x.coins(1), 1);
        Check.same("tollBox", x.tollBox(), 15);
        Check.same("isEast 0", x.isEast(0), true);
        Check.same("isEast 1", x.isEast(1), false);
        x.passTurns(50);
        Check.same("isEast 0 later", x.isEast(0), true);
        Check.same("isEast 1 later", x.isEast(1), false);
    }

    private static void royalCoinsAreCounted() {
        Document.terms("All royal coins that the person holds and that have not been counted yet are counted now.");
        BeggarKings x = game("0 0 0 1", "king west 2 0 0;king west 0 0 0;king west 0 0 0;" + BRIDGE);
        x.layRoyalCoin(1, 1);
        x.liftRoyalCoin(0, 1);
        x.joinQueue(0, 2);
        x.passTurns(1);
        Check.same("countedRoyalCoins of one who is turned away", x.countedRoyalCoins(), 0);
        x.passTurns(1);
        x.joinQueue(0, 0);
        x.passTurns(1);
        Check.same("countedRoyalCoins of one who holds two", x.countedRoyalCoins(), 2);
        Check.isTrue("the two are counted, the third is not", x.isCounted(0) && x.isCounted(1) && !x.isCounted(2));
        x.joinQueue(0, 0);
        x.passTurns(1);
        Check.same("countedRoyalCoins: each is counted once", x.countedRoyalCoins(), 2);
        Check.same("isEast 0", x.isEast(0), false);
        BeggarKings y = game("0 0 0 0", "king west 2 0 0;king west 0 0 0;king west 0 0 0;" + BRIDGE);
        y.layRoyalCoin(0, 0);
        y.joinQueue(0, 0);
        y.passTurns(1);
        Check.same("countedRoyalCoins of one who holds none", y.countedRoyalCoins(), 0);
    }

    private static void theLimitFallsTo0() {
        Document.terms("If the keeper took a crossing beggar for a king, the limit angle then decreases by the step of the keeper, but not below 0.");
        for (int step = 0; step <= 9; step++) {
            for (int limit = 0; limit <= 20; limit++) {
                BeggarKings x = game(limit + " " + step + " 1 1", PROUD_BEGGAR + POOR + POOR + BRIDGE);
                x.joinQueue(0, 0);
                x.passTurns(1);
                Check.same("limitAngle from " + limit + " with the step " + step, x.limitAngle(), Math.max(0, limit - step));
            }
        }
        BeggarKings x = game("90 9 1 1", "beggar west 9 0 0;beggar west 9 0 0;beggar west 9 0 0;bridge 1 0 3;");
        for (int p = 0; p < 3; p++) {
            x.joinQueue(p, 0);
        }
        x.passTurns(1);
        Check.same("limitAngle: 90, 81 and then 72, for which a bow of 80 is a beggar's", x.limitAngle(), 72);
    }

    private static void theLimitRises() {
        Document.terms("If the keeper took a crossing king for a beggar, it then increases by the step, but not above 90.");
        // no king bows deeper than 40, so that a limit rises from 40 at most, to 49 at most
        for (int step = 0; step <= 9; step++) {
            for (int limit = 0; limit <= 90; limit++) {
                BeggarKings x = game(limit + " " + step + " 1 1", HUMBLE_KING + POOR + POOR + BRIDGE);
                x.joinQueue(0, 0);
                x.passTurns(1);
                Check.same("limitAngle from " + limit + " with the step " + step, x.limitAngle(), limit <= 40 ? limit + step : limit);
            }
        }
    }

    private static void theTurnedAwayTeachNothing() {
        Document.terms("People who are turned away do not change it.");
        for (int offer = 8; offer <= 9; offer++) {
            BeggarKings x = game("40 9 1 1", PROUD_BEGGAR + HUMBLE_KING + POOR + BRIDGE);
            x.joinQueue(0, offer);
            x.passTurns(1);
            Check.same("limitAngle after a beggar with 9 coins for the price " + (offer + 1), x.limitAngle(), offer == 8 ? 31 : 40);
            BeggarKings y = game("40 9 1 1", PROUD_BEGGAR + HUMBLE_KING + POOR + BRIDGE);
            y.joinQueue(1, offer);
            y.passTurns(1);
            Check.same("limitAngle after a king with 9 coins for the price " + (offer + 1), y.limitAngle(), offer == 8 ? 49 : 40);
        }
    }

    private static void arrivalsDoNotQueue() {
        Document.terms("People who arrive in a turn are not in a queue.");
        BeggarKings x = game("0 0 0 0", POOR.repeat(3) + "bridge 1 0 3;");
        for (int p = 0; p < 3; p++) {
            x.joinQueue(p, p);
        }
        x.passTurns(1);
        for (int p = 0; p < 3; p++) {
            Check.same("offer " + p, x.offer(p), -1);
            int person = p;
            Check.badState("quitQueue " + p, () -> x.quitQueue(person));
        }
        Check.same("queueLength", x.queueLength(true) + x.queueLength(false), 0);
        Check.same("passTurns: nobody goes back", x.passTurns(3), 0);
        Check.same("joinQueue on the other bank", x.joinQueue(0, 0), 0);
        Check.same("queueLength east", x.queueLength(true), 1);
    }

    private static void theTurnEnds() {
        Document.terms("When all open bridges have been used, the current turn becomes the following turn.");
        BeggarKings x = game("0 0 0 0", POOR.repeat(3) + "bridge 2 1 1;");
        x.passTurns(1);
        Check.same("turn after one without an open bridge", x.turn(), 1);
        x.passTurns(1);
        Check.same("turn after one with empty queues", x.turn(), 2);
        x.joinQueue(0, 0);
        x.passTurns(48);
        Check.same("turn after 48 more", x.turn(), 50);
    }
}
