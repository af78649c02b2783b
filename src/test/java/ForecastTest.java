/** Promises 43 to 47: forecasts and reasons. */
public final class ForecastTest {
    private static final String RARE = "game 0 0 0 0;" + "beggar west 9 0 0;".repeat(9) + "beggar east 9 0 0;bridge 9 8 1;";

    public static void main(String[] args) {
        theTurnsUntilACrossing();
        theHundredthTurnIsTheLast();
        nobodyCrossesWhoIsTurnedAway();
        theTollBoxAndTheLimitLater();
        forecastsChangeNothing();
        noTurnPassesBeyondTheEnd();
        theForecastAgreesWithTheTurns();
        theFirstObstacleIsTold();
        theCoinGapIsZero();
        wrongInputs();
        Check.finish();
    }

    private static void theTurnsUntilACrossing() {
        BeggarKings x = new BeggarKings();
        x.joinQueue(0, 5);
        x.joinQueue(1, 5);
        x.joinQueue(2, 1);
        x.joinQueue(4, 0);
        int[] due = {0, 2, 4, -1, 1};
        for (int p = 0; p < 5; p++) {
            Check.same("turnsUntilCrossing " + p, x.turnsUntilCrossing(p), due[p]);
        }
        x.passTurns(1);
        int[] later = {-1, 1, 3, -1, 0};
        for (int p = 0; p < 5; p++) {
            Check.same("turnsUntilCrossing " + p + " a turn later", x.turnsUntilCrossing(p), later[p]);
        }
    }

    private static void theHundredthTurnIsTheLast() {
        BeggarKings x = Check.loaded(RARE);
        x.passTurns(16);
        for (int p = 0; p < 7; p++) {
            x.joinQueue(p, 0);
        }
        Check.same("turnsUntilCrossing 4 in turn 16", x.turnsUntilCrossing(4), 82);
        Check.same("turnsUntilCrossing 5 in turn 16", x.turnsUntilCrossing(5), -1);
        x.passTurns(1);
        Check.same("turnsUntilCrossing 0 in turn 17", x.turnsUntilCrossing(0), 9);
        Check.same("turnsUntilCrossing 4 in turn 17", x.turnsUntilCrossing(4), 81);
        Check.same("turnsUntilCrossing 5 in turn 17", x.turnsUntilCrossing(5), 99);
        Check.same("turnsUntilCrossing 6 in turn 17", x.turnsUntilCrossing(6), -1);
        BeggarKings y = Check.loaded("game 0 0 0 0;" + "beggar west 9 0 0;".repeat(3) + "bridge 2 1 1;");
        y.joinQueue(0, 0);
        Check.same("turnsUntilCrossing if the bridge never opens", y.turnsUntilCrossing(0), -1);
    }

    private static void nobodyCrossesWhoIsTurnedAway() {
        BeggarKings x = new BeggarKings();
        x.joinQueue(2, 2);
        x.joinQueue(1, 2);
        Check.same("turnsUntilCrossing of the poor", x.turnsUntilCrossing(2), -1);
        Check.same("turnsUntilCrossing of the next: no room is taken up", x.turnsUntilCrossing(1), 0);
    }

    private static void theTollBoxAndTheLimitLater() {
        BeggarKings x = new BeggarKings();
        x.setPride(1, 40);
        x.setPride(0, 0);
        x.joinQueue(0, 7);
        x.joinQueue(1, 3);
        // turn 0: king 0 bows 30, so he is taken for a beggar, pays 2 + 7, and the limit rises to 34
        // turn 2: beggar 1 bows 35 and is not taken for a king now, pays 2 + 3
        int[] boxes = {0, 9, 9, 14, 14};
        int[] limits = {30, 34, 34, 34, 34};
        for (int turns = 0; turns < 5; turns++) {
            Check.same("tollBoxAfter " + turns, x.tollBoxAfter(turns), boxes[turns]);
            Check.same("limitAngleAfter " + turns, x.limitAngleAfter(turns), limits[turns]);
        }
        Check.same("tollBoxAfter 100", x.tollBoxAfter(100), 14);
        Check.same("limitAngleAfter 100", x.limitAngleAfter(100), 34);
        x.swapRags(1, 2);
        Check.same("limitAngleAfter 3, in rags of a king", x.limitAngleAfter(3), 30);
        Check.same("tollBoxAfter 3, in rags of a king", x.tollBoxAfter(3), 9 + 12);
    }

    private static void forecastsChangeNothing() {
        BeggarKings x = new BeggarKings();
        x.joinQueue(0, 5);
        x.joinQueue(1, 5);
        x.saveSnapshot();
        String before = Check.state(x);
        x.tollBoxAfter(100);
        x.limitAngleAfter(100);
        x.turnsUntilCrossing(1);
        Check.same("state", Check.state(x), before);
        Check.same("undoableCount", x.undoableCount(), 2);
        x.restoreSnapshot();
        Check.same("snapshot", Check.state(x), before);
    }

    private static void noTurnPassesBeyondTheEnd() {
        BeggarKings x = PeopleTest.atTheEnd();
        x.joinQueue(0, 0);
        x.joinQueue(3, 0);
        Check.same("turnsUntilCrossing 0 at the end", x.turnsUntilCrossing(0), -1);
        Check.same("turnsUntilCrossing 3 at the end", x.turnsUntilCrossing(3), -1);
        Check.same("tollBoxAfter 100 at the end", x.tollBoxAfter(100), 0);
        x.undo();
        x.undo();
        x.undo();
        Check.same("turn", x.turn(), 9950);
        x.passTurns(49);
        x.joinQueue(0, 0);
        x.joinQueue(3, 0);
        x.joinQueue(4, 0);
        Check.same("turnsUntilCrossing 3 in turn 9999", x.turnsUntilCrossing(3), 0);
        Check.same("turnsUntilCrossing 4 in turn 9999", x.turnsUntilCrossing(4), -1);
        Check.same("turnsUntilCrossing 0 in turn 9999", x.turnsUntilCrossing(0), -1);
        Check.same("tollBoxAfter 1", x.tollBoxAfter(1), 9);
        Check.same("tollBoxAfter 100", x.tollBoxAfter(100), 9);
        Check.same("turn", x.turn(), 9999);
    }

    private static void theForecastAgreesWithTheTurns() {
        BeggarKings x = Check.loaded("game 45 7 13 5;king west 90 0 3;beggar west 70 40 9;beggar west 8 9 40;king east 80 30 20;"
                + "beggar east 99 0 50;king west 44 5 5;bridge 3 1 1;bridge 4 0 1;bridge 5 3 2;");
        int[] offers = {3, 9, 4, 20, 1, 9};
        for (int p = 0; p < 6; p++) {
            x.joinQueue(p, offers[p]);
        }
        int[] boxes = new int[41];
        int[] limits = new int[41];
        int[] crossing = new int[6];
        for (int turns = 0; turns <= 40; turns++) {
            boxes[turns] = x.tollBoxAfter(turns);
            limits[turns] = x.limitAngleAfter(turns);
        }
        for (int p = 0; p < 6; p++) {
            crossing[p] = x.turnsUntilCrossing(p);
        }
        for (int turns = 0; turns <= 40; turns++) {
            Check.same("tollBoxAfter " + turns, x.tollBox(), boxes[turns]);
            Check.same("limitAngleAfter " + turns, x.limitAngle(), limits[turns]);
            for (int p = 0; p < 6; p++) {
                Check.same("crossings " + p + " after " + turns, x.crossings(p), crossing[p] >= 0 && crossing[p] < turns ? 1 : 0);
            }
            x.passTurns(1);
        }
    }

    private static void theFirstObstacleIsTold() {
        BeggarKings x = Check.loaded("game 30 0 9 2;king west 9 40 20;beggar west 2 0 5;beggar west 1 0 0;beggar east 2 0 0;bridge 3 0 1;");
        int[] atFirst = {0, 0, 4, 2};
        int[] closed = {2, 2, 2, 3};
        for (int p = 0; p < 4; p++) {
            Check.same("crossingObstacle " + p + " in turn 0", x.crossingObstacle(p), atFirst[p]);
        }
        x.joinQueue(0, 1);
        x.joinQueue(1, 0);
        Check.same("crossingObstacle 0 with an offer", x.crossingObstacle(0), 4);
        Check.same("crossingObstacle 1 with the offer 0", x.crossingObstacle(1), 0);
        x.passTurns(1);
        for (int p = 0; p < 4; p++) {
            Check.same("crossingObstacle " + p + " in turn 1", x.crossingObstacle(p), p == 1 ? 3 : closed[p]);
        }
        x.passTurns(1);
        Check.same("crossingObstacle 0 in turn 2: no bridge is open", x.crossingObstacle(0), 3);
        Check.same("crossingObstacle 2 in turn 2: before the coins", x.crossingObstacle(2), 3);
        Check.same("crossingObstacle 3 in turn 2", x.crossingObstacle(3), 2);
        x.passTurns(1);
        Check.same("crossingObstacle 3 in turn 3", x.crossingObstacle(3), 0);
        x.joinQueue(3, 1);
        Check.same("crossingObstacle 3 in turn 3 with an offer", x.crossingObstacle(3), 4);
        BeggarKings y = PeopleTest.atTheEnd();
        for (int p = 0; p < 5; p++) {
            Check.same("crossingObstacle " + p + " at the end", y.crossingObstacle(p), 1);
        }
        y.undo();
        y.passTurns(49);
        Check.same("crossingObstacle 3 in turn 9999", y.crossingObstacle(3), 0);
        Check.same("crossingObstacle 0 in turn 9999", y.crossingObstacle(0), 2);
    }

    private static void theCoinGapIsZero() {
        BeggarKings x = new BeggarKings();
        Check.same("coinGap", x.coinGap(), 0);
        x.dropCoins(0, 7);
        x.dropCoins(3, 7);
        Check.same("coinGap with coins on the ground", x.coinGap(), 0);
        x.joinQueue(0, 7);
        x.passTurns(1);
        Check.same("coinGap with coins in the toll box", x.coinGap(), 0);
        x.pickCoins(1, 7);
        Check.same("coinGap", x.coinGap(), 0);
    }

    private static void wrongInputs() {
        BeggarKings x = new BeggarKings();
        for (int no : new int[] {-1, 5, 10, Integer.MIN_VALUE, Integer.MAX_VALUE}) {
            Check.noPerson("turnsUntilCrossing " + no, () -> x.turnsUntilCrossing(no));
            Check.noPerson("crossingObstacle " + no, () -> x.crossingObstacle(no));
        }
        for (int turns : new int[] {-1, 101, Integer.MIN_VALUE, Integer.MAX_VALUE}) {
            Check.badArgument("tollBoxAfter " + turns, () -> x.tollBoxAfter(turns));
            Check.badArgument("limitAngleAfter " + turns, () -> x.limitAngleAfter(turns));
        }
    }
}
