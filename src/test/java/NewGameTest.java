/** Promise 1: a new object. */
public final class NewGameTest {
    static final String FIRST_GAME = "game 30 4 9 2;king west 40 10 20;beggar west 12 0 5;beggar west 3 5 40;"
            + "king east 25 30 0;beggar east 9 20 15;bridge 1 0 1;bridge 3 1 2;";

    public static void main(String[] args) {
        theFirstGameIsTheOneOfTheDocument();
        theNewObjectHasNothingElse();
        Check.finish();
    }

    private static void theFirstGameIsTheOneOfTheDocument() {
        BeggarKings x = new BeggarKings();
        Check.same("state", Check.state(x), Check.state(Check.loaded(FIRST_GAME)));
        long[][] due = {{1, 0, 40, 10, 20}, {0, 0, 12, 0, 5}, {0, 0, 3, 5, 40}, {1, 1, 25, 30, 0}, {0, 1, 9, 20, 15}};
        Check.same("personCount", x.personCount(), due.length);
        for (int p = 0; p < due.length; p++) {
            Check.same("isKing " + p, x.isKing(p), due[p][0] == 1);
            Check.same("isEast " + p, x.isEast(p), due[p][1] == 1);
            Check.same("coins " + p, x.coins(p), due[p][2]);
            Check.same("pride " + p, x.pride(p), due[p][3]);
            Check.same("rank " + p, x.rank(p), due[p][4]);
            Check.same("rags " + p, x.rags(p), p);
            Check.same("crossings " + p, x.crossings(p), 0);
            Check.same("offer " + p, x.offer(p), -1);
        }
        Check.same("limitAngle", x.limitAngle(), 30);
        Check.same("tollOf a person taken for a king", x.tollOf(0), 9);
        Check.same("tollOf a person taken for a beggar", x.tollOf(1), 2);
        Check.same("bridgeCount", x.bridgeCount(), 2);
        Check.same("isOpen 0", x.isOpen(0), true);
        Check.same("isOpen 1", x.isOpen(1), false);
        Check.same("room", x.room(), 1);
        x.passTurns(1);
        Check.same("room in turn 1", x.room(), 3);
        Check.same("isOpen 1 in turn 1", x.isOpen(1), true);
        x.passTurns(3);
        Check.same("isOpen 1 in turn 4", x.isOpen(1), true);
    }

    private static void theNewObjectHasNothingElse() {
        BeggarKings x = new BeggarKings();
        Check.same("turn", x.turn(), 0);
        Check.same("tollBox", x.tollBox(), 0);
        Check.same("west ground", x.groundCoins(false), 0);
        Check.same("east ground", x.groundCoins(true), 0);
        Check.same("west queue", x.queueLength(false), 0);
        Check.same("east queue", x.queueLength(true), 0);
        Check.same("undoableCount", x.undoableCount(), 0);
        Check.same("errorCode", x.errorCode(), 0);
        Check.same("errorOffset", x.errorOffset(), -1);
        Check.badArgument("loadGame(1) of an empty buffer", () -> x.loadGame(1));
        Check.noPerson("outputByte(0) of an empty output", () -> x.outputByte(0));
        Check.badState("undo", () -> x.undo());
        Check.badState("restoreSnapshot", () -> x.restoreSnapshot());
        Check.same("royalHolder 0", x.royalHolder(0), 0);
        Check.same("royalHolder 3", x.royalHolder(3), 3);
        Check.same("countedRoyalCoins", x.countedRoyalCoins(), 0);
        Check.same("appendText", x.appendText(0, 0, 0, 0, 0), 20);
    }
}
