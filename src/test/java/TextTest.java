/** Promises 2 to 5: appendText, loadGame, errorCode and errorOffset, with every place of the grammar of a game. */
public final class TextTest {
    private static final String PEOPLE = "king west 1 2 3;beggar east 4 5 6;king east 7 8 9;";
    private static final String BRIDGE = "bridge 1 0 1;";
    private static final String SMALL = "game 1 2 3 4;" + PEOPLE + BRIDGE;

    public static void main(String[] args) {
        bytesAreAppendedMostSignificantFirst();
        theBufferEndsAt500();
        lengthsOutOfRangeLeaveTheBuffer();
        theBufferIsEmptiedInAnyCase();
        onlyTheFirstBytesAreRead();
        aLoadedGameIsAsItsTextTells();
        aLoadedGameStartsAfresh();
        gamesReplaceOneAnother();
        aFaultyTextLeavesTheGame();
        theLatestParseErrorIsTold();
        blanksAndTokens();
        wrongTokens();
        endsTooEarly();
        numbersOutOfRange();
        tooManyPeopleOrBridges();
        theGreatestGame();
        Check.finish();
    }

    private static void fault(String text, int code, int offset) {
        fault(text.getBytes(java.nio.charset.StandardCharsets.ISO_8859_1), text, code, offset);
    }

    private static void fault(byte[] bytes, String text, int code, int offset) {
        BeggarKings x = new BeggarKings();
        Check.same("loadGame " + text, x.loadGame(Check.type(x, bytes)), -1);
        Check.same("errorCode " + text, x.errorCode(), code);
        Check.same("errorOffset " + text, x.errorOffset(), offset);
    }

    private static void sound(String text, int people) {
        BeggarKings x = new BeggarKings();
        Check.same("loadGame " + text, Check.load(x, text), people);
        Check.same("errorCode " + text, x.errorCode(), 0);
        Check.same("errorOffset " + text, x.errorOffset(), -1);
    }

    private static void bytesAreAppendedMostSignificantFirst() {
        BeggarKings x = new BeggarKings();
        // "turn" " 7; " "    " "    " "    "
        Check.same("appendText", x.appendText(0x7475726e, 0x20373b20, 0x20202020, 0x20202020, 0x20202020), 20);
        Check.same("runScript", x.runScript(20), 1);
        Check.same("turn", x.turn(), 7);
        // a byte above 127 is an invalid token, wherever it stands in its word
        for (int i = 0; i < 20; i++) {
            int[] w = {0x20202020, 0x20202020, 0x20202020, 0x20202020, 0x20202020};
            w[i / 4] = w[i / 4] & ~(255 << 24 - 8 * (i % 4)) | 0xfb << 24 - 8 * (i % 4);
            x.appendText(w[0], w[1], w[2], w[3], w[4]);
            Check.same("runScript with byte 251 at " + i, x.runScript(20), -1);
            Check.same("errorCode with byte 251 at " + i, x.errorCode(), 1);
            Check.same("errorOffset with byte 251 at " + i, x.errorOffset(), i);
        }
    }

    private static void theBufferEndsAt500() {
        BeggarKings x = new BeggarKings();
        for (int i = 1; i <= 25; i++) {
            Check.same("appendText " + i, x.appendText(0x20202020, 0x20202020, 0x20202020, 0x20202020, 0x20202020), 20 * i);
        }
        Check.same("appendText beyond 500", x.appendText(0, 0, 0, 0, 0), -1);
        Check.same("appendText beyond 500 again", x.appendText(0, 0, 0, 0, 0), -1);
        Check.badArgument("loadGame(501)", () -> x.loadGame(501));
        Check.same("runScript(500): nothing was appended", x.runScript(500), 0);
        Check.same("appendText after that", x.appendText(0, 0, 0, 0, 0), 20);
    }

    private static void lengthsOutOfRangeLeaveTheBuffer() {
        BeggarKings x = new BeggarKings();
        int length = Check.type(x, SMALL);
        int typed = (length + 19) / 20 * 20;
        Check.badArgument("loadGame(-1)", () -> x.loadGame(-1));
        Check.badArgument("loadGame(min)", () -> x.loadGame(Integer.MIN_VALUE));
        Check.badArgument("loadGame(max)", () -> x.loadGame(Integer.MAX_VALUE));
        Check.badArgument("loadGame beyond the buffer", () -> x.loadGame(typed + 1));
        Check.same("errorCode", x.errorCode(), 0);
        Check.same("loadGame of the whole buffer", x.loadGame(typed), 3);
        Check.badArgument("loadGame(1)", () -> x.loadGame(1));
        Check.same("loadGame(0)", x.loadGame(0), -1);
        Check.same("errorCode of the empty text", x.errorCode(), 1);
        Check.same("errorOffset of the empty text", x.errorOffset(), 0);
    }

    private static void theBufferIsEmptiedInAnyCase() {
        BeggarKings x = new BeggarKings();
        Check.load(x, SMALL);
        Check.same("appendText after a sound text", x.appendText(0, 0, 0, 0, 0), 20);
        Check.same("loadGame", x.loadGame(5), -1);
        Check.same("appendText after a faulty text", x.appendText(0, 0, 0, 0, 0), 20);
    }

    private static void onlyTheFirstBytesAreRead() {
        BeggarKings x = new BeggarKings();
        Check.type(x, SMALL + "rubbish");
        Check.same("loadGame", x.loadGame(SMALL.length()), 3);
        Check.type(x, SMALL);
        Check.same("loadGame of a part", x.loadGame(2), -1);
        Check.same("errorOffset", x.errorOffset(), 0);
        Check.type(x, SMALL);
        Check.same("loadGame but for the last byte", x.loadGame(SMALL.length() - 1), -1);
        Check.same("errorCode", x.errorCode(), 1);
        Check.same("errorOffset", x.errorOffset(), SMALL.length() - 1);
        Check.type(x, "games");
        x.loadGame(4);
        Check.same("errorOffset of a cut word", x.errorOffset(), 4);
        // a number that is cut by the length is the number that is left of it
        Check.type(x, "turn 12;");
        x.runScript(6);
        Check.same("errorOffset of a cut number", x.errorOffset(), 6);
    }

    private static void aLoadedGameIsAsItsTextTells() {
        BeggarKings x = Check.loaded("game 57 8 91 29;beggar east 999 40 50;king west 0 0 0;beggar east 12 3 9;king west 5 6 7;"
                + "bridge 9 8 3;bridge 2 0 2;bridge 1 0 1;");
        Check.same("personCount", x.personCount(), 4);
        Check.same("limitAngle", x.limitAngle(), 57);
        Check.same("kingCount", x.kingCount(), 2);
        Check.same("isKing 0", x.isKing(0), false);
        Check.same("isKing 1", x.isKing(1), true);
        Check.same("isEast 0", x.isEast(0), true);
        Check.same("isEast 1", x.isEast(1), false);
        Check.same("coins 0", x.coins(0), 999);
        Check.same("pride 0", x.pride(0), 40);
        Check.same("rank 0", x.rank(0), 50);
        Check.same("coins 3", x.coins(3), 5);
        Check.same("pride 3", x.pride(3), 6);
        Check.same("rank 3", x.rank(3), 7);
        Check.same("king toll", x.tollOf(1), 91);
        Check.same("beggar toll", x.tollOf(2), 29);
        Check.same("royalHolder 3", x.royalHolder(3), 3);
        Check.same("bridgeCount", x.bridgeCount(), 3);
        Check.same("room", x.room(), 3);
        x.passTurns(8);
        Check.same("room in turn 8", x.room(), 6);
        Check.same("isOpen 0 in turn 8", x.isOpen(0), true);
        // the step: a beggar taken for a king lowers the limit by 8
        x.setPride(2, 40);
        x.dropCoins(0, 200);
        x.pickCoins(2, 200);
        x.passTurns(1);
        x.joinQueue(2, 0);
        x.passTurns(2);
        Check.same("limitAngle", x.limitAngle(), 49);
        Check.same("tollBox", x.tollBox(), 91);
    }

    private static void aLoadedGameStartsAfresh() {
        BeggarKings x = new BeggarKings();
        x.dropCoins(0, 1);
        x.dropCoins(3, 2);
        x.layRoyalCoin(3, 3);
        x.swapRags(0, 1);
        x.joinQueue(0, 1);
        x.joinQueue(4, 3);
        x.passTurns(1);
        x.joinQueue(0, 1);
        x.passTurns(1);
        x.joinQueue(3, 0);
        x.joinQueue(0, 3);
        x.joinQueue(1, 8);
        x.saveSnapshot();
        x.writeQueue(false);
        Check.same("queueLength west", x.queueLength(false), 2);
        Check.same("queueLength east", x.queueLength(true), 1);
        Check.same("countedRoyalCoins", x.countedRoyalCoins(), 1);
        Check.load(x, SMALL);
        Check.same("state", Check.state(x), Check.state(Check.loaded(SMALL)));
        Check.same("turn", x.turn(), 0);
        Check.same("tollBox", x.tollBox(), 0);
        Check.same("ground", x.groundCoins(false) + x.groundCoins(true), 0);
        Check.same("queues", x.queueLength(false) + x.queueLength(true), 0);
        Check.same("coinGap", x.coinGap(), 0);
        Check.same("undoableCount", x.undoableCount(), 0);
        Check.badState("undo", () -> x.undo());
        Check.badState("restoreSnapshot", () -> x.restoreSnapshot());
        Check.badState("liftRoyalCoin: the coin is held again", () -> x.liftRoyalCoin(0, 0));
        Check.same("the output stays", Check.output(x, 7), "1:8 0:3");
    }

    private static void gamesReplaceOneAnother() {
        BeggarKings x = new BeggarKings();
        Check.same("loadGame", Check.load(x, SMALL + BRIDGE), 3);
        Check.same("loadGame", Check.load(x, "game 1 2 3 4;" + PEOPLE + PEOPLE + BRIDGE), 6);
        Check.same("bridgeCount", x.bridgeCount(), 1);
        Check.same("loadGame of a faulty text", Check.load(x, SMALL + "x"), -1);
        Check.same("loadGame", Check.load(x, SMALL), 3);
        Check.same("personCount", x.personCount(), 3);
        Check.same("bridgeCount", x.bridgeCount(), 1);
        Check.same("state", Check.state(x), Check.state(Check.loaded(SMALL)));
    }

    private static void aFaultyTextLeavesTheGame() {
        BeggarKings x = new BeggarKings();
        x.joinQueue(1, 1);
        x.passTurns(1);
        x.saveSnapshot();
        x.passTurns(1);
        String before = Check.state(x);
        for (String text : new String[] {"", "game 1 1 1 1;", "game 1 2 3 4;" + PEOPLE, SMALL + ";", SMALL + "bridge 1 1 1;"}) {
            Check.same("loadGame " + text, Check.load(x, text), -1);
            Check.same("state after " + text, Check.state(x), before);
            Check.same("undoableCount after " + text, x.undoableCount(), 3);
        }
        Check.same("restoreSnapshot", x.restoreSnapshot(), 1);
    }

    private static void theLatestParseErrorIsTold() {
        BeggarKings x = new BeggarKings();
        Check.load(x, "game 91");
        Check.same("errorCode", x.errorCode(), 2);
        Check.same("errorOffset", x.errorOffset(), 5);
        Check.badArgument("loadGame(-1)", () -> x.loadGame(-1));
        Check.badArgument("runScript(-1)", () -> x.runScript(-1));
        Check.same("errorCode after an exception", x.errorCode(), 2);
        Check.same("errorOffset after an exception", x.errorOffset(), 5);
        x.passTurns(1);
        x.undo();
        Check.same("errorCode after an undo", x.errorCode(), 2);
        Check.run(x, "turn 1");
        Check.same("errorCode of a script", x.errorCode(), 1);
        Check.same("errorOffset of a script", x.errorOffset(), 6);
        Check.run(x, "drop 9 1;");
        Check.same("errorCode of a script that stops", x.errorCode(), 0);
        Check.same("errorOffset of a script that stops", x.errorOffset(), -1);
        Check.load(x, "x");
        Check.same("errorCode", x.errorCode(), 1);
        Check.load(x, SMALL);
        Check.same("errorCode of a sound game", x.errorCode(), 0);
        Check.same("errorOffset of a sound game", x.errorOffset(), -1);
    }

    private static void blanksAndTokens() {
        sound(SMALL, 3);
        sound(" \n game\n1 \n2 3 4 ; " + PEOPLE.replace(" ", "\n  ") + BRIDGE + " \n ", 3);
        sound("game1 2 3 4;" + PEOPLE + "bridge1 0 1;", 3);
        sound("game 0000000000000000000000000000000001 002 3 4;" + PEOPLE + BRIDGE, 3);
        fault("game 1\t2 3 4;" + PEOPLE + BRIDGE, 1, 6);
        fault("game 1\r2 3 4;" + PEOPLE + BRIDGE, 1, 6);
        fault("game 12 3 4;" + PEOPLE + BRIDGE, 1, 11);
        fault("game" + "1a", 1, 5);
        fault("gamex 1", 1, 0);
        fault("gam 1", 1, 0);
        fault("xame 1", 1, 0);
        fault("gamez 1", 1, 0);
        fault("gamea 1", 1, 0);
        fault("ga me 1", 1, 0);
        fault("Game 1", 1, 0);
        fault("gAme 1", 1, 0);
        fault("game 1.5", 1, 6);
        fault("game -1", 1, 5);
        fault("game \u00e9", 1, 5);
        fault("game \0", 1, 5);
        fault("game {", 1, 5);
        fault("game `", 1, 5);
        fault("game /", 1, 5);
        fault("game :", 1, 5);
    }

    private static void wrongTokens() {
        fault("king west 1 2 3;", 1, 0);
        fault("1", 1, 0);
        fault(";", 1, 0);
        fault("game game", 1, 5);
        fault("game ;", 1, 5);
        fault("game 1 2 3 4 5", 1, 13);
        fault("game 1 2 3 4 king", 1, 13);
        String head = "game 1 2 3 4;";
        fault(head + ";", 1, 13);
        fault(head + "bridge 1 0 1;", 1, 13);
        fault(head + "queen", 1, 13);
        fault(head + "king king", 1, 18);
        fault(head + "king west west", 1, 23);
        fault(head + "king north", 1, 18);
        fault(head + "king 1", 1, 18);
        fault(head + "beggar west 1 2 3 4", 1, 31);
        fault(head + "beggar west 1 2;", 1, 28);
        fault(head + "beggar west 1 2 3 king", 1, 31);
        fault(head + "king west 1 2 3;beggar east 4 5 6;" + BRIDGE, 1, 47);
        fault(head + PEOPLE + ";", 1, 63);
        fault(head + PEOPLE + "bridges", 1, 63);
        fault(head + PEOPLE + "bridge king", 1, 70);
        fault(head + PEOPLE + "bridge 2 bridge", 1, 72);
        fault(head + PEOPLE + "bridge 2 1;", 1, 73);
        fault(head + PEOPLE + "bridge 2 1 1 1", 1, 76);
        fault(head + PEOPLE + BRIDGE + "king west 1 2 3;", 1, 76);
        fault(head + PEOPLE + BRIDGE + "beggar", 1, 76);
        fault(head + PEOPLE + BRIDGE + "game", 1, 76);
        fault(head + PEOPLE + BRIDGE + "1", 1, 76);
        fault(head + PEOPLE + BRIDGE + "!", 1, 76);
    }

    private static void endsTooEarly() {
        for (int length = 0; length < SMALL.length(); length++) {
            boolean cutsWord = length > 0 && Character.isLetter(SMALL.charAt(length - 1)) && Character.isLetter(SMALL.charAt(length));
            int start = length;
            while (cutsWord && start > 0 && Character.isLetter(SMALL.charAt(start - 1))) {
                start--;
            }
            fault(SMALL.substring(0, length), 1, cutsWord ? start : length);
        }
        fault("game 1 2 3 4;" + PEOPLE + " \n  ", 1, 67);
        fault("  ", 1, 2);
    }

    private static void numbersOutOfRange() {
        String[] good = {"game 90 9 99 99;", "king west 999 40 50;", "bridge 9 8 3;"};
        sound(good[0] + good[1] + good[1] + good[1] + good[2], 3);
        sound("game 0 0 0 0;king west 0 0 0;king west 0 0 0;king west 0 0 0;bridge 1 0 1;", 3);
        fault("game 91 9 99 99;", 2, 5);
        fault("game 90 10 99 99;", 2, 8);
        fault("game 90 9 100 99;", 2, 10);
        fault("game 90 9 99 100;", 2, 13);
        fault("game 4294967296 1 1 1;", 2, 5);
        fault("game 18446744073709551616 1 1 1;", 2, 5);
        fault("game 1000 1 1 1;", 2, 5);
        fault(good[0] + "king west 1000 40 50;", 2, 26);
        fault(good[0] + "king west 4294967297 40 50;", 2, 26);
        fault(good[0] + "king west 999 41 50;", 2, 30);
        fault(good[0] + "king west 999 40 51;", 2, 33);
        String head = good[0] + good[1] + good[1] + good[1];
        fault(head + "bridge 0 0 1;", 2, 83);
        fault(head + "bridge 10 0 1;", 2, 83);
        fault(head + "bridge 9 9 1;", 2, 85);
        fault(head + "bridge 1 1 1;", 2, 85);
        fault(head + "bridge 5 5 1;", 2, 85);
        fault(head + "bridge 9 8 0;", 2, 87);
        fault(head + "bridge 9 8 4;", 2, 87);
        sound(head + "bridge 5 4 3;", 3);
    }

    private static void tooManyPeopleOrBridges() {
        String person = "king west 1 1 1;";
        String ten = "game 1 1 1 1;" + person.repeat(10);
        sound(ten + BRIDGE, 10);
        fault(ten + person + BRIDGE, 3, ten.length());
        fault(ten + "\n beggar", 3, ten.length() + 2);
        fault(ten + "kin", 1, ten.length());
        fault(ten + "west", 1, ten.length());
        fault(ten + "5", 1, ten.length());
        fault(ten, 1, ten.length());
        fault(ten + BRIDGE + person, 1, ten.length() + BRIDGE.length());
        String four = SMALL + BRIDGE.repeat(3);
        sound(four, 3);
        fault(four + BRIDGE, 3, four.length());
        fault(four + " bridge", 3, four.length() + 1);
        fault(four + "bridges", 1, four.length());
        fault(four + "king", 1, four.length());
        fault(four + ";", 1, four.length());
    }

    private static void theGreatestGame() {
        String text = "game 90 9 99 99;" + "beggar east 999 40 50;".repeat(10) + "bridge 9 8 3;".repeat(4);
        BeggarKings x = Check.loaded(text);
        Check.same("personCount", x.personCount(), 10);
        Check.same("bridgeCount", x.bridgeCount(), 4);
        Check.same("coins 9", x.coins(9), 999);
        Check.same("rank 9", x.rank(9), 50);
        Check.noPerson("coins 10", () -> x.coins(10));
        for (int p = 0; p < 10; p++) {
            x.joinQueue(p, p);
        }
        Check.same("queueLength", x.queueLength(true), 10);
        Check.same("turnsUntilCrossing 9", x.turnsUntilCrossing(9), 17);
        x.passTurns(18);
        Check.same("bankCount", x.bankCount(false), 10);
        Check.same("tollBox", x.tollBox(), 10 * 99 + 45);
        Check.same("room", x.room(), 0);
    }
}
