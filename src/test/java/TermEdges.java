/** The sentences of the terms up to the turns, each at both sides of the boundaries that it names. */
final class TermEdges {
    private static final String BRIDGE = "bridge 1 0 1;";
    private static final String POOR = "beggar west 0 0 0;";

    private TermEdges() {
    }

    static void run() {
        peopleAreThreeToTen();
        peopleAreNumberedFromZero();
        kindsStay();
        coinsAndPrideHaveTheirBounds();
        ragsAreAsManyAsPeople();
        ranksStay();
        coinsAreSomewhere();
        royalCoinsAreSomewhere();
        bowsAreAngles();
        rawValues();
        theLimitParts();
        offersOrderTheQueue();
        equalOffersKeepTheirOrder();
        bridgesHaveTheirBounds();
        bridgesOpenByTheRemainder();
    }

    static BeggarKings game(String header, String rest) {
        return Check.loaded("game " + header + ";" + rest);
    }

    /** The answer of loadGame on a new object. */
    static int load(String text) {
        return Check.load(new BeggarKings(), text);
    }

    private static void peopleAreThreeToTen() {
        Document.terms("A game has 3 to 10 people.");
        for (int count = 0; count <= 12; count++) {
            BeggarKings x = new BeggarKings();
            int due = count >= 3 && count <= 10 ? count : -1;
            Check.same("loadGame with " + count, Check.load(x, "game 1 1 1 1;" + POOR.repeat(count) + BRIDGE), due);
            Check.same("personCount", x.personCount(), due < 0 ? 5 : due);
            Check.same("errorCode with " + count, x.errorCode(), count < 3 ? 1 : count > 10 ? 3 : 0);
        }
    }

    private static void peopleAreNumberedFromZero() {
        Document.terms("A person is identified by a number, starting at 0.");
        for (int count : new int[] {3, 10}) {
            BeggarKings x = game("1 1 1 1", POOR.repeat(count) + BRIDGE);
            Check.same("coins of the first", x.coins(0), 0);
            Check.same("coins of the last", x.coins(count - 1), 0);
            Check.noPerson("coins before the first", () -> x.coins(-1));
            Check.noPerson("coins after the last of " + count, () -> x.coins(count));
        }
    }

    private static void kindsStay() {
        Document.terms("A person is a king or a beggar for the whole game.");
        BeggarKings x = new BeggarKings();
        x.swapRags(0, 1);
        x.layRoyalCoin(0, 0);
        x.liftRoyalCoin(1, 0);
        x.setPride(0, 0);
        x.joinQueue(0, 0);
        x.joinQueue(1, 0);
        x.passTurns(3);
        x.saveSnapshot();
        x.undo();
        x.restoreSnapshot();
        Check.isTrue("both have crossed", x.isEast(0) && x.isEast(1));
        Check.isTrue("0 is a king and 1 is a beggar", x.isKing(0) && !x.isKing(1));
        Check.same("kingCount", x.kingCount(), 2);
    }

    private static void coinsAndPrideHaveTheirBounds() {
        Document.terms("A person is on the west bank or on the east bank of the river, has 0 or more copper coins and a pride from 0 to 40, "
                + "and wears one set of rags.");
        BeggarKings x = game("0 0 0 0", "beggar west 1 0 0;beggar east 1 40 0;beggar west 999 0 0;" + BRIDGE);
        Check.same("dropCoins of the only one", x.dropCoins(0, 1), 1);
        Check.same("coins", x.coins(0), 0);
        Check.badState("dropCoins of none", () -> x.dropCoins(0, 1));
        Check.same("coins after that", x.coins(0), 0);
        x.pickCoins(2, 1);
        Check.same("coins above 999", x.coins(2), 1000);
        x.joinQueue(0, 0);
        Check.same("a person without coins pays the price 0", x.passTurns(1), 1);
        Check.same("coins after the crossing", x.coins(0), 0);
        Check.isTrue("isEast", x.isEast(0) && x.isEast(1) && !x.isEast(2));
        Check.same("the pride 0", x.pride(0), 0);
        Check.same("the pride 40", x.pride(1), 40);
        Check.badArgument("setPride below", () -> x.setPride(0, -1));
        Check.badArgument("setPride above", () -> x.setPride(1, 41));
        x.swapRags(0, 1);
        Check.isTrue("everybody wears another set", x.rags(0) == 1 && x.rags(1) == 0 && x.rags(2) == 2);
    }

    private static void ragsAreAsManyAsPeople() {
        for (int count : new int[] {3, 4, 9, 10}) {
            BeggarKings x = game("1 1 1 1", POOR.repeat(count) + BRIDGE);
            Document.terms("There are as many sets of rags as people, numbered from 0.");
            Check.same("rank of the first set", x.rank(0), 0);
            Check.same("rank of the last set", x.rank(count - 1), 0);
            Check.noPerson("rank before the first set", () -> x.rank(-1));
            Check.noPerson("rank after the last of " + count, () -> x.rank(count));
            Check.noPerson("wearer after the last of " + count, () -> x.wearer(count));
            Document.terms("At the start person i wears set i.");
            for (int i = 0; i < count; i++) {
                Check.same("rags " + i, x.rags(i), i);
                Check.same("wearer " + i, x.wearer(i), i);
            }
        }
    }

    private static void ranksStay() {
        Document.terms("Each set has a rank from 0 to 50, which never changes.");
        Check.same("a rank of 51", load("game 1 1 1 1;beggar west 0 0 51;" + POOR + POOR + BRIDGE), -1);
        BeggarKings x = game("1 1 1 1", "beggar west 9 0 50;beggar west 9 0 0;beggar west 9 0 49;" + BRIDGE);
        x.swapRags(0, 1);
        x.swapRags(1, 2);
        x.joinQueue(0, 0);
        x.setPride(0, 40);
        x.passTurns(1);
        x.undo();
        int[] ranks = {50, 0, 49};
        for (int set = 0; set < 3; set++) {
            Check.same("rank " + set, x.rank(set), ranks[set]);
        }
    }

    private static void coinsAreSomewhere() {
        BeggarKings x = game("30 9 7 3", "king west 99 0 0;beggar west 50 40 50;beggar east 20 0 0;" + BRIDGE);
        Document.terms("Copper coins are in the purses of people, on the ground of a bank, or in the toll box.");
        x.dropCoins(0, 10);
        x.dropCoins(2, 20);
        x.joinQueue(1, 4);
        x.passTurns(1);
        int[] due = {89, 39, 0, 10, 20, 11};
        int[] got = {x.coins(0), x.coins(1), x.coins(2), x.groundCoins(false), x.groundCoins(true), x.tollBox()};
        for (int i = 0; i < due.length; i++) {
            Check.same("place " + i, got[i], due[i]);
        }
        Document.terms("Their total number never changes.");
        x.pickCoins(1, 20);
        x.joinQueue(0, 99);
        x.joinQueue(1, 40);
        x.passTurns(2);
        Check.same("the total", coinsOf(x), 169);
        x.undo();
        Check.same("the total after an undo", coinsOf(x), 169);
        Check.run(x, "turn 3;pick 0 10;drop 0 99;turn 2;");
        Check.same("the total after a script", coinsOf(x), 169);
        Check.same("coinGap", x.coinGap(), 0);
    }

    static int coinsOf(BeggarKings x) {
        int sum = x.groundCoins(false) + x.groundCoins(true) + x.tollBox();
        for (int person = 0; person < x.personCount(); person++) {
            sum += x.coins(person);
        }
        return sum;
    }

    private static void royalCoinsAreSomewhere() {
        BeggarKings x = game("0 0 1 1", "king west 0 0 0;beggar west 1 0 0;king east 1 0 0;" + BRIDGE);
        Document.terms("For each king there is one royal coin, which is identified by the number of this king.");
        Check.same("royal coins in all", x.royalCoins(0) + x.royalCoins(1) + x.royalCoins(2), 2);
        Check.badArgument("a beggar's royal coin", () -> x.royalHolder(1));
        Document.terms("At the start each king holds its own royal coin and no royal coin has been counted.");
        for (int king : new int[] {0, 2}) {
            Check.same("royalHolder " + king, x.royalHolder(king), king);
            Check.same("isCounted " + king, x.isCounted(king), false);
        }
        Document.terms("It cannot be spent.");
        x.joinQueue(0, 0);
        Check.same("passTurns", x.passTurns(1), 0);
        Check.same("royalHolder of a king who is turned away", x.royalHolder(0), 0);
        Check.same("tollBox", x.tollBox(), 0);
        Document.terms("A royal coin is held by a person or lies on the ground of a bank.");
        x.layRoyalCoin(0, 0);
        Check.same("royalHolder on the ground", x.royalHolder(0), -1);
        Check.same("isRoyalCoinEast on the west ground", x.isRoyalCoinEast(0), false);
        Check.same("groundCoins: a royal coin is not of copper", x.groundCoins(false), 0);
        x.liftRoyalCoin(1, 0);
        Check.same("royalHolder lifted", x.royalHolder(0), 1);
        x.joinQueue(1, 0);
        x.passTurns(2);
        Check.same("isRoyalCoinEast carried", x.isRoyalCoinEast(0), true);
        x.layRoyalCoin(1, 0);
        Check.same("isRoyalCoinEast on the east ground", x.isRoyalCoinEast(0), true);
    }

    /** A game of two people with the same pride and rank, a beggar and a king, and one with another rank. */
    private static BeggarKings bowing(int pride, int rank, int otherRank) {
        String same = pride + " " + rank + ";";
        return game("0 0 0 0", "beggar west 0 " + same + "king west 0 " + same + "beggar west 0 0 " + otherRank + ";" + BRIDGE);
    }

    private static void bowsAreAngles() {
        for (int raw = -45; raw <= 95; raw++) {
            int less = Math.max(0, 45 - raw);
            int ownRank = Math.min(50, less);
            BeggarKings x = bowing(less - ownRank, ownRank, Math.max(0, raw - 45));
            int angle = raw < 0 ? 0 : raw > 90 ? 90 : raw;
            Document.terms("It is computed from a raw value: a raw value below 0 gives the angle 0, and a raw value above 90 gives the angle 90.");
            Check.same("bowTo with the raw value " + raw, x.bowTo(0, 2), angle);
            Document.terms("If the person who bows is a king, this angle is divided by 2 and rounded down.");
            Check.same("bowTo of a king with the raw value " + raw, x.bowTo(1, 2), angle / 2);
            Document.terms("The depth of a bow is an angle from 0 to 90.");
            for (int p = 0; p < 3; p++) {
                Check.isTrue("bowToKeeper", x.bowToKeeper(p) >= 0 && x.bowToKeeper(p) <= 90);
                int depth = x.bowTo(p, (p + 1) % 3);
                Check.isTrue("bowTo", depth >= 0 && depth <= 90);
            }
        }
    }

    private static void rawValues() {
        Document.terms("The raw value of a bow to another person is 45 plus the rank of the other person's rags "
                + "minus the rank of the bowing person's rags minus the pride of the bowing person.");
        Check.same("45", bowing(0, 0, 0).bowTo(0, 2), 45);
        Check.same("45 + 44", bowing(0, 0, 44).bowTo(0, 2), 89);
        Check.same("45 - 44", bowing(0, 44, 0).bowTo(0, 2), 1);
        Check.same("45 - 40", bowing(40, 0, 0).bowTo(0, 2), 5);
        BeggarKings swapped = bowing(0, 7, 30);
        swapped.swapRags(0, 2);
        Check.same("45 + 7 - 30 in the other's rags", swapped.bowTo(0, 2), 22);
        swapped.setPride(2, 40);
        Check.same("the other's pride does not count", swapped.bowTo(0, 2), 22);
        Document.terms("The raw value of a bow to the toll keeper is 80 minus the rank of the person's rags minus the pride of the person.");
        for (int less = 0; less <= 90; less++) {
            int rank = Math.min(50, less);
            BeggarKings x = bowing(less - rank, rank, 0);
            Check.same("bowToKeeper with the raw value " + (80 - less), x.bowToKeeper(0), Math.max(0, 80 - less));
            Check.same("bowToKeeper of a king with the raw value " + (80 - less), x.bowToKeeper(1), Math.max(0, 80 - less) / 2);
        }
    }

    private static void theLimitParts() {
        Document.terms("The keeper has a limit angle from 0 to 90.");
        Check.same("limit 0", load("game 0 0 0 0;" + POOR.repeat(3) + BRIDGE), 3);
        Check.same("limit 90", load("game 90 0 0 0;" + POOR.repeat(3) + BRIDGE), 3);
        Check.same("limit 91", load("game 91 0 0 0;" + POOR.repeat(3) + BRIDGE), -1);
        Document.terms("The keeper takes a person for a king if the angle of the person's bow to the keeper is less than the limit, "
                + "and for a beggar otherwise.");
        for (int limit = 0; limit <= 90; limit++) {
            // the bows are 0, 40 and 80 deep
            BeggarKings x = game(limit + " 0 99 0", "beggar west 0 40 50;beggar west 0 40 0;beggar west 0 0 0;" + BRIDGE);
            for (int p = 0; p < 3; p++) {
                Check.same("the angle " + 40 * p + " with the limit " + limit, x.isTakenForKing(p), 40 * p < limit);
            }
        }
        Document.terms("The toll is the king toll for a person taken for a king and the beggar toll for a person taken for a beggar.");
        for (int toll : new int[] {0, 1, 98, 99}) {
            BeggarKings x = game("40 0 " + toll + " " + (99 - toll), "beggar west 0 40 1;beggar west 0 40 0;king west 0 0 0;" + BRIDGE);
            Check.same("tollOf a beggar taken for a king", x.tollOf(0), toll);
            Check.same("tollOf a beggar taken for a beggar", x.tollOf(1), 99 - toll);
            Check.same("tollOf a king taken for a beggar", x.tollOf(2), 99 - toll);
            x.setPride(2, 1);
            Check.same("tollOf a king taken for a king", x.tollOf(2), toll);
        }
    }

    private static void offersOrderTheQueue() {
        Document.terms("A person can queue on its bank with an offer of 0 to 99 copper coins.");
        BeggarKings x = new BeggarKings();
        Check.badArgument("an offer of -1", () -> x.joinQueue(0, -1));
        Check.badArgument("an offer of 100", () -> x.joinQueue(0, 100));
        Check.same("an offer of 0", x.joinQueue(0, 0), 0);
        Check.same("an offer of 99, which is more than the person has", x.joinQueue(1, 99), 0);
        x.joinQueue(4, 5);
        Check.same("queueLength west", x.queueLength(false), 2);
        Check.same("queueLength east", x.queueLength(true), 1);
        Check.same("queued east", x.queued(true, 0), 4);
        Document.terms("The queue of a bank is ordered by offers, the greatest first.");
        BeggarKings y = game("0 0 0 0", POOR.repeat(10) + BRIDGE);
        int[] offers = {50, 0, 99, 49, 51, 1, 98, 2, 97, 3};
        int[] order = {2, 6, 8, 4, 0, 3, 9, 7, 5, 1};
        for (int p = 0; p < 10; p++) {
            y.joinQueue(p, offers[p]);
        }
        for (int place = 0; place < 10; place++) {
            Check.same("queued " + place, y.queued(false, place), order[place]);
        }
    }

    private static void equalOffersKeepTheirOrder() {
        Document.terms("Among equal offers the person who joined earlier comes first.");
        BeggarKings x = game("0 0 0 0", POOR.repeat(10) + BRIDGE);
        int[] joining = {9, 3, 7, 0, 5};
        for (int i = 0; i < joining.length; i++) {
            Check.same("place of " + joining[i], x.joinQueue(joining[i], 99), i);
        }
        Check.same("place of 1 with 98, behind all with 99", x.joinQueue(1, 98), 5);
        Check.same("place of 2 with 98", x.joinQueue(2, 98), 6);
        Check.same("place of 4 with 99, before all with 98", x.joinQueue(4, 99), 5);
        x.quitQueue(9);
        Check.same("place of 9, who joined again", x.joinQueue(9, 99), 5);
        int[] order = {3, 7, 0, 5, 4, 9, 1, 2};
        for (int place = 0; place < order.length; place++) {
            Check.same("queued " + place, x.queued(false, place), order[place]);
        }
    }

    private static void bridgesHaveTheirBounds() {
        Document.terms("There are 1 to 4 bridges, numbered from 0.");
        for (int count = 0; count <= 6; count++) {
            BeggarKings x = new BeggarKings();
            boolean sound = count >= 1 && count <= 4;
            int bridges = sound ? count : 2;
            Check.same("loadGame with " + count, Check.load(x, "game 1 1 1 1;" + POOR.repeat(3) + BRIDGE.repeat(count)), sound ? 3 : -1);
            Check.same("bridgeCount", x.bridgeCount(), bridges);
            Check.same("errorCode with " + count, x.errorCode(), count < 1 ? 1 : count > 4 ? 3 : 0);
            Check.same("isOpen of the first", x.isOpen(0), true);
            Check.same("isOpen of the last", x.isOpen(bridges - 1), sound);
            Check.noPerson("isOpen before the first", () -> x.isOpen(-1) ? 1 : 0);
            Check.noPerson("isOpen after the last", () -> x.isOpen(bridges) ? 1 : 0);
        }
        Document.terms("A bridge has a period from 1 to 9, a phase from 0 to the period minus 1, and a width from 1 to 3.");
        for (int period = 0; period <= 10; period++) {
            for (int phase = 0; phase <= 10; phase++) {
                for (int width = 0; width <= 4; width++) {
                    boolean sound = period >= 1 && period <= 9 && phase < period && width >= 1 && width <= 3;
                    String bridge = "bridge " + period + " " + phase + " " + width + ";";
                    Check.same(bridge, load("game 1 1 1 1;" + POOR.repeat(3) + bridge), sound ? 3 : -1);
                }
            }
        }
    }

    private static void bridgesOpenByTheRemainder() {
        for (int period = 1; period <= 9; period++) {
            for (int phase = 0; phase < period; phase++) {
                BeggarKings x = game("1 1 1 1", POOR.repeat(3) + "bridge " + period + " " + phase + " 3;");
                Document.terms("It is open in a turn if the remainder of the number of the turn divided by the period equals the phase.");
                for (int turn = 0; turn < 20; turn++) {
                    Check.same("isOpen with period " + period + " and phase " + phase + " in turn " + turn, x.isOpen(0), turn % period == phase);
                    x.passTurns(1);
                }
                x.passTurns(30);
                for (int turn = 50; turn < 9950; turn += 50) {
                    x.passTurns(50);
                }
                x.passTurns(49);
                Check.same("isOpen in turn 9999", x.isOpen(0), 9999 % period == phase);
                Document.terms("(This also tells what is open in turn 10000, which never passes.)");
                x.passTurns(1);
                Check.same("turn", x.turn(), 10000);
                Check.same("isOpen with period " + period + " and phase " + phase, x.isOpen(0), 10000 % period == phase);
                Check.same("room", x.room(), 10000 % period == phase ? 3 : 0);
                Check.badState("passTurns", () -> x.passTurns(1));
            }
        }
    }
}
