/** The sentences of promises 1 to 47, each at both sides of the boundaries that it names. */
final class AnswerEdges {
    static final String BRIDGE = "bridge 1 0 1;";
    static final String POOR = "beggar west 0 0 0;";
    static final String NO_PERSON = "Throws `IndexOutOfBoundsException` if there is no such person";

    /** A call that is given a number, of a person for the most part. */
    interface Numbered {
        long run(BeggarKings x, int number);
    }

    private AnswerEdges() {
    }

    static void run() {
        aNewObject();
        appendText();
        loadGame();
        aSmallerGame();
        loadGameRefused();
        parseErrors();
        theGame();
        people();
        noSuchPerson();
        noSuchSet();
        theRichest();
        bows();
        guesses();
        stiffestAndCheapest();
        theMean();
        royalCoins();
        royalCoinsOfNobody();
        shares();
        queues();
        bridges();
        firstPlaceOffers();
        turnsUntilCrossing();
        forecasts();
        forecastsBeyondTheEnd();
        obstacles();
        theLedger();
    }

    private static BeggarKings game(String header, String rest) {
        return TermEdges.game(header, rest);
    }

    /** Appends twenty blanks. */
    private static int append(BeggarKings x) {
        return x.appendText(0x20202020, 0x20202020, 0x20202020, 0x20202020, 0x20202020);
    }

    private static void aNewObject() {
        Document.promise(1, "Creates the game \"game 30 4 9 2;king west 40 10 20;beggar west 12 0 5;beggar west 3 5 40;king east 25 30 0;"
                + "beggar east 9 20 15;bridge 1 0 1;bridge 3 1 2;\", with an empty input buffer and an empty output.");
        BeggarKings x = new BeggarKings();
        Check.same("state", Check.state(x), Check.state(Check.loaded(NewGameTest.FIRST_GAME)));
        Check.noPerson("outputByte", () -> x.outputByte(0));
        Check.badArgument("runScript", () -> x.runScript(1));
        Check.same("runScript of nothing", x.runScript(0), 0);
        BeggarKings y = new BeggarKings();
        Check.same("appendText", append(y), 20);
        Document.promise(1, "Both queues are empty, the current turn is turn 0, and nothing can be undone.");
        BeggarKings z = new BeggarKings();
        Check.same("queued west", z.queued(false, 0), -1);
        Check.same("queued east", z.queued(true, 0), -1);
        Check.same("turn", z.turn(), 0);
        Check.same("undoableCount", z.undoableCount(), 0);
        Check.badState("undo", () -> z.undo());
    }

    private static void appendText() {
        Document.promise(2, "Returns the new number of bytes in the buffer; -1 if it would exceed 500, in which case nothing is appended.");
        BeggarKings x = new BeggarKings();
        for (int size = 20; size <= 500; size += 20) {
            Check.same("appendText to " + size, append(x), size);
        }
        Check.same("appendText to 520", x.appendText(-1, -1, -1, -1, -1), -1);
        Check.same("appendText to 520 again", x.appendText(-1, -1, -1, -1, -1), -1);
        Check.badArgument("runScript of 501 bytes", () -> x.runScript(501));
        Check.same("runScript of 500 blanks", x.runScript(500), 0);
        Check.same("appendText to the buffer that was emptied", append(x), 20);
        for (int size = 40; size <= 480; size += 20) {
            append(x);
        }
        Check.same("appendText from 480", x.appendText(0, 0, 0, 0, '!'), 500);
        Check.same("appendText from 500", append(x), -1);
        Check.same("runScript: the last bytes are read", x.runScript(500), -1);
        Check.same("errorOffset of the zero at 480", x.errorOffset(), 480);
    }

    private static void loadGame() {
        String text = "game 5 6 7 8;" + POOR.repeat(3) + BRIDGE;
        Document.promise(3, "If there is no error, a new game replaces the old one: the current turn is turn 0, queues, grounds and the toll box "
                + "are empty, the undo history is cleared, and the snapshot is discarded.");
        BeggarKings x = new BeggarKings();
        x.joinQueue(0, 0);
        x.passTurns(1);
        x.dropCoins(1, 1);
        x.dropCoins(3, 1);
        x.joinQueue(1, 0);
        x.joinQueue(3, 0);
        x.saveSnapshot();
        BeggarKings y = new BeggarKings();
        y.passTurns(1);
        y.saveSnapshot();
        Check.same("loadGame", Check.load(x, text), 3);
        Check.same("state", Check.state(x), Check.state(Check.loaded(text)));
        Check.same("turn", x.turn(), 0);
        Check.same("queues", x.queueLength(false) + x.queueLength(true), 0);
        Check.same("grounds", x.groundCoins(false) + x.groundCoins(true), 0);
        Check.same("tollBox", x.tollBox(), 0);
        Check.same("undoableCount", x.undoableCount(), 0);
        Check.badState("restoreSnapshot", () -> x.restoreSnapshot());
        Document.promise(3, "Returns the number of people; -1 if there is a parse error, in which case the game stays as it is.");
        Check.same("loadGame with a fault at its last byte", Check.load(y, text + "!"), -1);
        Check.same("turn", y.turn(), 1);
        Check.same("personCount", y.personCount(), 5);
        Check.same("limitAngle", y.limitAngle(), 30);
        Check.same("undoableCount", y.undoableCount(), 1);
        Check.same("restoreSnapshot", y.restoreSnapshot(), 1);
        for (int people = 3; people <= 10; people++) {
            Check.same("loadGame", TermEdges.load("game 5 6 7 8;" + POOR.repeat(people) + BRIDGE), people);
        }
        Document.promise(3, "The buffer is emptied in any case.");
        Check.badArgument("loadGame after a sound text", () -> x.loadGame(1));
        Check.badArgument("loadGame after a faulty text", () -> y.loadGame(1));
        Check.same("appendText after a sound text", append(x), 20);
        Check.same("appendText after a faulty text", append(y), 20);
        Check.same("loadGame of no byte of it", x.loadGame(0), -1);
        Check.same("appendText after the empty text", append(x), 20);
    }

    /** Nothing of a larger game is left in a smaller one. */
    private static void aSmallerGame() {
        Document.promise(3, "If there is no error, a new game replaces the old one: the current turn is turn 0, queues, grounds and the toll box "
                + "are empty, the undo history is cleared, and the snapshot is discarded.");
        String larger = "game 90 9 99 99;" + "king west 999 40 50;".repeat(10) + "bridge 1 0 3;".repeat(4);
        String[] smaller = {"game 81 1 2 3;" + "beggar west 5 0 0;".repeat(3) + BRIDGE, "game 9 1 2 3;" + "king west 5 0 0;".repeat(9) + BRIDGE,
            "game 41 1 3 2;" + "beggar east 5 0 1;".repeat(5) + "bridge 3 1 2;" + BRIDGE};
        for (String text : smaller) {
            BeggarKings x = Check.loaded(larger);
            Check.load(x, "game 90 9 99 99;" + "king west 999 40 50;".repeat(10) + "bridge 1 0 3;".repeat(4) + "!");
            for (int p = 0; p < 10; p++) {
                x.layRoyalCoin(p, p);
                x.liftRoyalCoin(0, p);
                x.joinQueue(p, p);
            }
            x.passTurns(1);
            Check.load(x, text);
            BeggarKings y = Check.loaded(text);
            Check.same("state", Check.state(x), Check.state(y));
            for (int p = 0; p < x.personCount(); p++) {
                x.joinQueue(p, 0);
                y.joinQueue(p, 0);
            }
            for (int turn = 0; turn < 12; turn++) {
                Check.same("passTurns", x.passTurns(1), y.passTurns(1));
                Check.same("state", Check.state(x), Check.state(y));
            }
        }
        BeggarKings x = Check.loaded(smaller[0]);
        Check.same("wrongGuesses about three beggars", x.wrongGuesses(), 3);
        Check.same("coinGap", x.coinGap(), 0);
    }

    private static void loadGameRefused() {
        Document.promise(3, "Throws `IllegalArgumentException` if length is negative or greater than the number of bytes in the buffer; "
                + "the buffer is not emptied then");
        String text = "game 5 6 7 8;" + POOR.repeat(3) + BRIDGE;
        Check.same("the length of the text", text.length(), 80);
        for (int length : new int[] {-1, Integer.MIN_VALUE, 81, 100, 500, 501, Integer.MAX_VALUE}) {
            BeggarKings x = new BeggarKings();
            Check.type(x, text);
            Check.badArgument("loadGame of " + length, () -> x.loadGame(length));
            Check.same("errorCode", x.errorCode(), 0);
            Check.same("loadGame of 80", x.loadGame(80), 3);
        }
        BeggarKings x = new BeggarKings();
        Check.badArgument("loadGame of 1 of none", () -> x.loadGame(1));
        Check.same("loadGame of 0 of none", x.loadGame(0), -1);
    }

    private static void parseErrors() {
        String code = "Returns 1, 2 or 3; 0 if that call found no error or there was no such call.";
        String offset = "Returns the offset; -1 if that call found no error or there was no such call.";
        BeggarKings x = new BeggarKings();
        Document.promise(4, code);
        Check.same("errorCode of a new object", x.errorCode(), 0);
        Document.promise(5, offset);
        Check.same("errorOffset of a new object", x.errorOffset(), -1);
        String[] texts = {"turn 1;".repeat(20) + "turn", "turn 51;", "turn", "x", "turn 1;", "drop 9 9;", ""};
        int[] codes = {3, 2, 1, 1, 0, 0, 0};
        int[] offsets = {140, 5, 4, 0, -1, -1, -1};
        for (int i = 0; i < texts.length; i++) {
            // before each there is an error of another kind, and after it calls that throw or are no parsers
            Check.load(x, "game 91");
            Check.same("errorCode of a game", x.errorCode(), 2);
            Check.run(x, texts[i]);
            x.passTurns(1);
            x.undo();
            Check.badArgument("loadGame", () -> x.loadGame(-1));
            Check.badArgument("runScript", () -> x.runScript(501));
            Document.promise(4, code);
            Check.same("errorCode of '" + texts[i] + "'", x.errorCode(), codes[i]);
            Document.promise(5, offset);
            Check.same("errorOffset of '" + texts[i] + "'", x.errorOffset(), offsets[i]);
        }
        Check.run(x, "turn 51;");
        Check.load(x, NewGameTest.FIRST_GAME);
        Document.promise(4, code);
        Check.same("errorCode of a sound game", x.errorCode(), 0);
        Document.promise(5, offset);
        Check.same("errorOffset of a sound game", x.errorOffset(), -1);
    }

    private static void theGame() {
        Document.promise(6, "Returns 0 to 10000 (10000 if all turns have passed).");
        BeggarKings x = new BeggarKings();
        Check.same("turn", x.turn(), 0);
        TurnEdges.toTurn(x, 9999);
        Check.same("turn", x.turn(), 9999);
        x.passTurns(1);
        Check.same("turn", x.turn(), 10000);
        x.undo();
        Check.same("turn", x.turn(), 9999);
        Document.promise(7, "Returns 0 to 90.");
        for (int limit : new int[] {0, 1, 89, 90}) {
            Check.same("limitAngle", game(limit + " 9 0 0", POOR.repeat(3) + BRIDGE).limitAngle(), limit);
        }
        Document.promise(8, "Returns the number of coins.");
        BeggarKings y = game("0 0 99 99", "beggar west 999 0 0;".repeat(10) + "bridge 1 0 3;".repeat(4));
        Check.same("tollBox", y.tollBox(), 0);
        for (int p = 0; p < 10; p++) {
            y.joinQueue(p, 99);
        }
        y.passTurns(1);
        Check.same("tollBox after ten greatest prices", y.tollBox(), 1980);
        Document.promise(9, "Returns the number of coins.");
        Check.same("groundCoins", y.groundCoins(true), 0);
        for (int p = 0; p < 10; p++) {
            y.dropCoins(p, 801);
        }
        Check.same("groundCoins east", y.groundCoins(true), 8010);
        Check.same("groundCoins west", y.groundCoins(false), 0);
        Document.promise(10, "Returns 3 to 10.");
        Check.same("personCount", y.personCount(), 10);
        Check.same("personCount", game("0 0 0 0", POOR.repeat(3) + BRIDGE).personCount(), 3);
        Document.promise(11, "Returns 0 to personCount().");
        Check.same("kingCount of beggars", y.kingCount(), 0);
        Check.same("kingCount of kings", game("0 0 0 0", "king west 0 0 0;".repeat(10) + BRIDGE).kingCount(), 10);
        Check.same("kingCount of one king", game("0 0 0 0", POOR.repeat(9) + "king west 0 0 0;" + BRIDGE).kingCount(), 1);
        Document.promise(12, "Returns the number of people, in the queue or not.");
        Check.same("bankCount west", y.bankCount(false), 0);
        Check.same("bankCount east", y.bankCount(true), 10);
        y.pickCoins(3, 99);
        y.joinQueue(3, 0);
        Check.same("bankCount east with a queue", y.bankCount(true), 10);
        y.passTurns(1);
        Check.same("bankCount east", y.bankCount(true), 9);
        Check.same("bankCount west", y.bankCount(false), 1);
    }

    private static void people() {
        BeggarKings x = game("0 0 0 0", "king east 999 40 50;beggar west 0 0 0;king west 1 39 49;" + BRIDGE);
        Document.promise(13, "Returns true for a king, false for a beggar.");
        Check.isTrue("isKing", x.isKing(0) && !x.isKing(1) && x.isKing(2));
        Document.promise(14, "Returns true for the east bank, false for the west bank.");
        Check.isTrue("isEast", x.isEast(0) && !x.isEast(1) && !x.isEast(2));
        Document.promise(15, "Returns the number of coins.");
        Check.same("coins", x.coins(0), 999);
        Check.same("coins", x.coins(1), 0);
        Check.same("coins", x.coins(2), 1);
        Document.promise(16, "Returns 0 to 40.");
        Check.same("pride", x.pride(0), 40);
        Check.same("pride", x.pride(1), 0);
        Check.same("pride", x.pride(2), 39);
        Document.promise(17, "Returns the number of the set of rags.");
        x.swapRags(1, 2);
        Check.isTrue("rags", x.rags(0) == 0 && x.rags(1) == 2 && x.rags(2) == 1);
        Document.promise(18, "Returns 0 to 50.");
        Check.isTrue("rank", x.rank(0) == 50 && x.rank(1) == 0 && x.rank(2) == 49);
        Document.promise(19, "Returns the number of the person who wears it.");
        Check.isTrue("wearer", x.wearer(0) == 0 && x.wearer(1) == 2 && x.wearer(2) == 1);
        Document.promise(20, "Returns the number of crossings.");
        Check.same("crossings of nobody", x.crossings(1), 0);
        for (int turn = 0; turn < 6; turn++) {
            x.joinQueue(1, 0);
            x.passTurns(1);
            Check.same("crossings", x.crossings(1), turn + 1);
            Check.same("crossings of another", x.crossings(2), 0);
        }
    }

    /** The call throws beyond the people of a game, and only there. */
    static void person(int promise, String name, Numbered call) {
        Document.promise(promise, NO_PERSON);
        throwsBeyond(name, call);
    }

    static void throwsBeyond(String name, Numbered call) {
        for (int count : new int[] {3, 5, 10}) {
            BeggarKings x = game("50 1 1 1", "king west 9 0 0;".repeat(count) + BRIDGE);
            for (int number : new int[] {-1, Integer.MIN_VALUE, count, count + 1, 10, 11, 16, 256, 65536, Integer.MAX_VALUE}) {
                Check.noPerson(name + " " + number + " of " + count, () -> call.run(x, number));
            }
            for (int number = 0; number < count; number++) {
                Check.isTrue(name + " " + number + " of " + count, isSomebody(x, number, call));
            }
        }
    }

    /** A call that is refused for another reason has found the person. */
    private static boolean isSomebody(BeggarKings x, int number, Numbered call) {
        try {
            call.run(x, number);
            return true;
        } catch (IllegalStateException e) {
            return true;
        } catch (IndexOutOfBoundsException e) {
            return false;
        }
    }

    private static void noSuchPerson() {
        person(13, "isKing", (x, p) -> x.isKing(p) ? 1 : 0);
        person(14, "isEast", (x, p) -> x.isEast(p) ? 1 : 0);
        person(15, "coins", (x, p) -> x.coins(p));
        person(16, "pride", (x, p) -> x.pride(p));
        person(17, "rags", (x, p) -> x.rags(p));
        person(20, "crossings", (x, p) -> x.crossings(p));
        person(22, "bowTo", (x, p) -> x.bowTo(p, p == 0 ? 1 : 0));
        person(22, "bowTo", (x, p) -> x.bowTo(p == 0 ? 1 : 0, p));
        person(23, "bowToKeeper", (x, p) -> x.bowToKeeper(p));
        person(24, "isTakenForKing", (x, p) -> x.isTakenForKing(p) ? 1 : 0);
        person(25, "tollOf", (x, p) -> x.tollOf(p));
        person(28, "cheapestRags", (x, p) -> x.cheapestRags(p));
        person(30, "royalHolder", (x, p) -> x.royalHolder(p));
        person(31, "isRoyalCoinEast", (x, p) -> x.isRoyalCoinEast(p) ? 1 : 0);
        person(32, "isCounted", (x, p) -> x.isCounted(p) ? 1 : 0);
        person(33, "royalCoins", (x, p) -> x.royalCoins(p));
        person(38, "offer", (x, p) -> x.offer(p));
        person(42, "firstPlaceOffer", (x, p) -> x.firstPlaceOffer(p));
        person(43, "turnsUntilCrossing", (x, p) -> x.turnsUntilCrossing(p));
        person(46, "crossingObstacle", (x, p) -> x.crossingObstacle(p));
    }

    private static void noSuchSet() {
        Document.promise(18, "Throws `IndexOutOfBoundsException` if there is no such set");
        throwsBeyond("rank", (x, set) -> x.rank(set));
        Document.promise(19, "Throws `IndexOutOfBoundsException` if there is no such set");
        throwsBeyond("wearer", (x, set) -> x.wearer(set));
    }

    private static void theRichest() {
        Document.promise(21, "Returns the number of the person with the most copper coins; the smallest number if several are equal.");
        int[][] purses = {{0, 0, 0}, {0, 0, 1}, {0, 1, 1}, {1, 1, 1}, {1, 1, 2}, {2, 1, 2}, {999, 998, 999}, {998, 999, 999}, {1, 3, 2}};
        int[] due = {0, 2, 1, 0, 2, 0, 0, 1, 1};
        for (int i = 0; i < due.length; i++) {
            StringBuilder people = new StringBuilder();
            for (int purse : purses[i]) {
                people.append("beggar east ").append(purse).append(" 0 0;");
            }
            Check.same("richest of " + people, game("0 0 0 0", people + BRIDGE).richest(), due[i]);
        }
        Check.same("richest of ten", game("0 0 0 0", POOR.repeat(9) + "king east 1 0 0;" + BRIDGE).richest(), 9);
    }

    private static void bows() {
        BeggarKings x = game("40 0 9 2", "beggar west 0 40 0;king west 0 0 0;beggar east 0 39 0;king east 0 1 50;" + BRIDGE);
        Document.promise(22, "Returns the angle.");
        Check.same("bowTo 0 1", x.bowTo(0, 1), 5);
        Check.same("bowTo 1 3: 95, so 90, so 45", x.bowTo(1, 3), 45);
        Check.same("bowTo 3 0: -6", x.bowTo(3, 0), 0);
        Check.same("bowTo 2 3: over the river", x.bowTo(2, 3), 56);
        Document.promise(22, "Throws `IllegalArgumentException` if both numbers are equal");
        for (int p = 0; p < 4; p++) {
            int person = p;
            Check.badArgument("bowTo " + p, () -> x.bowTo(person, person));
            Check.isTrue("bowTo another", x.bowTo(p, (p + 1) % 4) >= 0);
        }
        int[] angles = {40, 40, 41, 14};
        boolean[] kings = {false, false, false, true};
        for (int p = 0; p < 4; p++) {
            Document.promise(23, "Returns the angle.");
            Check.same("bowToKeeper " + p, x.bowToKeeper(p), angles[p]);
            Document.promise(24, "Returns whether the person's bow to the keeper is less than the limit angle.");
            Check.same("isTakenForKing " + p, x.isTakenForKing(p), kings[p]);
            Document.promise(25, "Returns the king toll or the beggar toll.");
            Check.same("tollOf " + p, x.tollOf(p), kings[p] ? 9 : 2);
        }
    }

    private static void guesses() {
        Document.promise(26, "Returns the number of kings who would be taken for beggars plus the number of beggars who would be taken for kings.");
        // two beggars bow 39 and 40 deep, two kings 39 and 40 deep
        String people = "beggar west 0 40 1;beggar east 0 40 0;king west 0 2 0;king east 0 0 0;";
        Check.same("wrongGuesses with the limit 39", game("39 0 9 2", people + BRIDGE).wrongGuesses(), 2);
        Check.same("wrongGuesses with the limit 40", game("40 0 9 2", people + BRIDGE).wrongGuesses(), 2);
        Check.same("wrongGuesses with the limit 41", game("41 0 9 2", people + BRIDGE).wrongGuesses(), 2);
        Check.same("wrongGuesses about kings with 40", game("40 0 9 2", "king west 0 0 0;".repeat(10) + BRIDGE).wrongGuesses(), 10);
        Check.same("wrongGuesses about kings with 41", game("41 0 9 2", "king west 0 0 0;".repeat(10) + BRIDGE).wrongGuesses(), 0);
        Check.same("wrongGuesses about beggars with 40", game("40 0 9 2", "beggar west 0 40 0;".repeat(10) + BRIDGE).wrongGuesses(), 0);
        Check.same("wrongGuesses about beggars with 41", game("41 0 9 2", "beggar west 0 40 0;".repeat(10) + BRIDGE).wrongGuesses(), 10);
    }

    private static void stiffestAndCheapest() {
        Document.promise(27, "Returns the number of the person with the smallest angle; the smallest number if several are equal.");
        String[] prides = {"0 0 0", "1 0 0", "0 1 0", "0 0 1", "0 1 1", "1 0 1", "40 40 40", "39 40 40", "39 39 40"};
        int[] due = {0, 0, 1, 2, 1, 0, 0, 1, 2};
        for (int i = 0; i < due.length; i++) {
            String people = "beggar west 0 " + prides[i].replace(" ", " 0;beggar east 0 ") + " 0;";
            Check.same("stiffest with the prides " + prides[i], game("0 0 0 0", people + BRIDGE).stiffest(), due[i]);
        }
        Check.same("stiffest: angles below 0 are equal", game("0 0 0 0", "beggar west 0 40 49;beggar west 0 40 50;" + POOR + BRIDGE).stiffest(), 0);
        Check.same("stiffest: halves are equal", game("0 0 0 0", "king west 0 0 0;king west 0 0 1;king west 0 0 2;" + BRIDGE).stiffest(), 1);
        Document.promise(28, "Returns the number of the set of rags, whoever wears it; the smallest number if several tolls are equal.");
        String people = "beggar west 0 0 40;beggar west 0 0 41;beggar east 0 0 40;beggar east 0 0 50;";
        Check.same("cheapestRags: 39 is less than 40", game("40 0 1 2", people + BRIDGE).cheapestRags(0), 1);
        Check.same("cheapestRags: only 30 is less than 39", game("39 0 1 2", people + BRIDGE).cheapestRags(0), 3);
        Check.same("cheapestRags: none is less than 30", game("30 0 1 2", people + BRIDGE).cheapestRags(0), 0);
        Check.same("cheapestRags: all are less than 90", game("90 0 1 2", people + BRIDGE).cheapestRags(3), 0);
        Check.same("cheapestRags: the tolls are equal", game("40 0 2 2", people + BRIDGE).cheapestRags(3), 0);
        Check.same("cheapestRags: kings pay more", game("40 0 2 1", people + BRIDGE).cheapestRags(1), 0);
        BeggarKings x = game("40 0 1 2", people + BRIDGE);
        x.swapRags(0, 1);
        Check.same("cheapestRags: whoever wears it", x.cheapestRags(3), 1);
    }

    private static void theMean() {
        Document.promise(29, "Returns the sum of the angles of all people divided by the number of people, both converted to double.");
        Check.sameReal("meanBow of 0", game("0 0 0 0", "beggar west 0 40 50;".repeat(3) + BRIDGE).meanBow(), 0.0);
        Check.sameReal("meanBow of 80", game("0 0 0 0", POOR.repeat(10) + BRIDGE).meanBow(), 80.0);
        Check.sameReal("meanBow of thirds", game("0 0 0 0", "beggar west 0 40 39;" + "beggar west 0 40 40;".repeat(2) + BRIDGE).meanBow(), 1.0 / 3.0);
        Check.sameReal("meanBow of sevenths", game("0 0 0 0", "beggar west 0 40 38;" + "beggar west 0 40 40;".repeat(6) + BRIDGE).meanBow(), 2.0 / 7.0);
        Check.sameReal("meanBow of kings", game("0 0 0 0", "king west 0 0 1;".repeat(3) + BRIDGE).meanBow(), 39.0);
    }

    private static void royalCoins() {
        BeggarKings x = game("0 0 0 0", "king west 0 0 0;beggar west 0 0 0;king east 0 0 0;king west 0 0 0;" + BRIDGE);
        Document.promise(33, "Returns the number of royal coins, counted or not.");
        Check.isTrue("royalCoins", x.royalCoins(0) == 1 && x.royalCoins(1) == 0 && x.royalCoins(2) == 1);
        Document.promise(31, "Returns true if it lies on the ground of the east bank or its holder is on the east bank.");
        Check.isTrue("isRoyalCoinEast held", !x.isRoyalCoinEast(0) && x.isRoyalCoinEast(2));
        x.layRoyalCoin(0, 0);
        x.layRoyalCoin(2, 2);
        Check.isTrue("isRoyalCoinEast on the ground", !x.isRoyalCoinEast(0) && x.isRoyalCoinEast(2));
        Document.promise(30, "Returns the number of the person who holds the royal coin of this king; -1 if it lies on the ground.");
        Check.isTrue("royalHolder", x.royalHolder(0) == -1 && x.royalHolder(2) == -1 && x.royalHolder(3) == 3);
        x.liftRoyalCoin(1, 0);
        Check.same("royalHolder, a beggar", x.royalHolder(0), 1);
        x.joinQueue(1, 0);
        x.passTurns(1);
        Document.promise(31, "Returns true if it lies on the ground of the east bank or its holder is on the east bank.");
        Check.isTrue("isRoyalCoinEast carried", x.isRoyalCoinEast(0) && x.isRoyalCoinEast(2) && !x.isRoyalCoinEast(3));
        Check.isTrue("the king himself is on the west bank", !x.isEast(0));
        Document.promise(32, "Returns whether it has been counted.");
        Check.isTrue("isCounted", x.isCounted(0) && !x.isCounted(2) && !x.isCounted(3));
        x.layRoyalCoin(1, 0);
        Check.isTrue("isCounted on the ground", x.isCounted(0));
        Document.promise(33, "Returns the number of royal coins, counted or not.");
        Check.same("royalCoins of none", x.royalCoins(1), 0);
        x.liftRoyalCoin(1, 0);
        x.liftRoyalCoin(1, 2);
        Check.same("royalCoins of two, one of them counted", x.royalCoins(1), 2);
        BeggarKings y = game("0 0 0 0", "king west 0 0 0;".repeat(10) + BRIDGE);
        for (int king = 1; king < 10; king++) {
            y.layRoyalCoin(king, king);
            y.liftRoyalCoin(0, king);
        }
        Check.same("royalCoins of ten", y.royalCoins(0), 10);
        Check.same("royalCoins of none", y.royalCoins(9), 0);
    }

    private static void royalCoinsOfNobody() {
        BeggarKings x = new BeggarKings();
        for (int p = 0; p < 5; p++) {
            int person = p;
            Numbered[] calls = {(g, k) -> g.royalHolder(k), (g, k) -> g.isRoyalCoinEast(k) ? 1 : 0, (g, k) -> g.isCounted(k) ? 1 : 0};
            for (int i = 0; i < 3; i++) {
                Numbered call = calls[i];
                Document.promise(30 + i, "Throws `IllegalArgumentException` if the person is not a king");
                if (p == 0 || p == 3) {
                    Check.isTrue("a king", call.run(x, person) >= 0);
                } else {
                    Check.badArgument("a beggar", () -> call.run(x, person));
                }
            }
        }
    }

    private static void shares() {
        for (int kings = 0; kings <= 10; kings++) {
            BeggarKings x = game("0 0 0 0", "king west 0 0 0;".repeat(kings) + POOR.repeat(10 - kings) + "bridge 1 0 1;");
            for (int counted = 0; counted <= kings; counted++) {
                Document.promise(34, "Returns 0 to kingCount().");
                Check.same("countedRoyalCoins", x.countedRoyalCoins(), counted);
                Document.promise(35, "Returns countedRoyalCoins() divided by kingCount(), both converted to float; 0.0 without kings.");
                Check.sameReal("countedShare " + counted + " of " + kings, x.countedShare(), kings == 0 ? 0.0f : (float) counted / (float) kings);
                if (counted < kings) {
                    x.joinQueue(counted, 0);
                    x.passTurns(2);
                }
            }
        }
    }

    private static void queues() {
        BeggarKings x = game("0 0 0 0", POOR.repeat(9) + "beggar east 0 0 0;" + BRIDGE);
        for (int length = 0; length <= 9; length++) {
            Document.promise(36, "Returns the number of people in the queue.");
            Check.same("queueLength", x.queueLength(false), length);
            Check.same("queueLength east", x.queueLength(true), 0);
            Document.promise(37, "Returns the number of the person; -1 if place is negative or not less than the length of the queue.");
            Check.same("queued east", x.queued(true, 0), -1);
            for (int place : new int[] {-1, -10, Integer.MIN_VALUE, length, length + 1, 10, 11, Integer.MAX_VALUE}) {
                Check.same("queued " + place + " of " + length, x.queued(false, place), -1);
            }
            for (int place = 0; place < length; place++) {
                Check.same("queued " + place + " of " + length, x.queued(false, place), place);
            }
            Document.promise(38, "Returns the offer; -1 if the person is not in a queue.");
            for (int p = 0; p < 10; p++) {
                Check.same("offer " + p, x.offer(p), p < length ? 99 - 11 * p : -1);
            }
            if (length < 9) {
                x.joinQueue(length, 99 - 11 * length);
            }
        }
        x.joinQueue(9, 0);
        Check.same("an offer of 0", x.offer(9), 0);
        x.quitQueue(9);
        Check.same("offer of one who quitted", x.offer(9), -1);
        x.passTurns(1);
        Check.same("offer of one who was turned away", x.offer(0), -1);
    }

    private static void bridges() {
        for (int count = 1; count <= 4; count++) {
            BeggarKings x = game("0 0 0 0", POOR.repeat(3) + "bridge 2 0 3;".repeat(count));
            Document.promise(39, "Returns 1 to 4.");
            Check.same("bridgeCount", x.bridgeCount(), count);
            for (int turn = 0; turn < 4; turn++) {
                Document.promise(40, "Returns whether it is open.");
                for (int bridge = 0; bridge < count; bridge++) {
                    Check.same("isOpen in turn " + turn, x.isOpen(bridge), turn % 2 == 0);
                }
                Document.promise(41, "Returns the sum of the widths of all bridges that are open in the current turn.");
                Check.same("room in turn " + turn, x.room(), turn % 2 == 0 ? 3 * count : 0);
                x.passTurns(1);
            }
            Document.promise(40, "Throws `IndexOutOfBoundsException` if there is no such bridge");
            for (int no : new int[] {-1, Integer.MIN_VALUE, count, count + 1, 4, 5, Integer.MAX_VALUE}) {
                Check.noPerson("isOpen " + no + " of " + count, () -> x.isOpen(no) ? 1 : 0);
            }
            Check.isTrue("isOpen of the last", x.isOpen(count - 1));
        }
        Document.promise(41, "Returns the sum of the widths of all bridges that are open in the current turn.");
        BeggarKings y = game("0 0 0 0", POOR.repeat(3) + "bridge 1 0 1;bridge 2 1 2;bridge 3 2 3;bridge 4 3 3;");
        int[] rooms = {1, 3, 4, 6, 1, 6, 1, 6, 4, 3, 1, 9};
        for (int turn = 0; turn < rooms.length; turn++) {
            Check.same("room in turn " + turn, y.room(), rooms[turn]);
            y.passTurns(1);
        }
    }

    private static void firstPlaceOffers() {
        Document.promise(42, "Returns the smallest such offer from 0 to 99, supposing that the person left the queue first, if it is in it, "
                + "and joined now with this offer; -1 if there is none.");
        for (int offer = 0; offer <= 99; offer++) {
            BeggarKings x = game("0 0 0 0", POOR.repeat(9) + "beggar east 0 0 0;" + BRIDGE);
            Check.same("in an empty queue", x.firstPlaceOffer(0), 0);
            x.joinQueue(0, offer);
            int above = offer == 99 ? -1 : offer + 1;
            Check.same("above " + offer, x.firstPlaceOffer(1), above);
            Check.same("of the only one with " + offer, x.firstPlaceOffer(0), 0);
            Check.same("on the other bank", x.firstPlaceOffer(9), 0);
            x.joinQueue(1, offer);
            Check.same("of the first of two equal", x.firstPlaceOffer(0), above);
            Check.same("of the second of two equal", x.firstPlaceOffer(1), above);
            x.joinQueue(2, 99);
            Check.same("of the second below 99", x.firstPlaceOffer(0), -1);
            Check.same("of the first with 99, or of the last of three", x.firstPlaceOffer(2), above);
            Check.same("the queue stays", x.queueLength(false), 3);
        }
    }

    private static void turnsUntilCrossing() {
        Document.promise(43, "Returns the number of turns that pass before the turn in which the person crosses (0 for the current turn); "
                + "-1 if the person is not in a queue, is turned away, or does not cross within 100 turns.");
        // of a queue of ten one crosses every 18 turns: in the turns 8, 26, 44, 62, 80, 98, 116 and so on
        BeggarKings x = game("0 0 0 0", POOR.repeat(10) + "bridge 9 8 1;");
        Check.same("of one who does not queue", x.turnsUntilCrossing(0), -1);
        for (int p = 0; p < 10; p++) {
            x.joinQueue(p, 0);
        }
        for (int turn = 0; turn <= 18; turn++) {
            for (int p = 0; p < 10; p++) {
                int turns = 8 + 18 * p - turn;
                Check.same("of " + p + " in turn " + turn, x.turnsUntilCrossing(p), turns >= 0 && turns < 100 ? turns : -1);
            }
            Check.same("turn", x.turn(), turn);
            x.passTurns(1);
        }
        BeggarKings y = game("0 0 1 1", POOR + "beggar west 1 0 0;beggar west 2 0 0;beggar east 1 0 0;" + BRIDGE);
        y.joinQueue(0, 9);
        y.joinQueue(1, 1);
        y.joinQueue(2, 1);
        y.joinQueue(3, 0);
        Check.same("of one who has nothing", y.turnsUntilCrossing(0), -1);
        Check.same("of one who has less than the price", y.turnsUntilCrossing(1), -1);
        Check.same("of one who has just the price, in the current turn", y.turnsUntilCrossing(2), 0);
        Check.same("of one in the next turn", y.turnsUntilCrossing(3), 1);
        y.passTurns(1);
        Check.same("of one who has crossed", y.turnsUntilCrossing(2), -1);
        Check.same("of one in the current turn", y.turnsUntilCrossing(3), 0);
        BeggarKings z = game("0 0 0 0", POOR.repeat(3) + "bridge 2 1 3;");
        z.joinQueue(0, 0);
        Check.same("of one for whom no bridge opens", z.turnsUntilCrossing(0), -1);
        theLimitOfAForecast();
    }

    /** A person may become able to pay, or be kept from it, by what the keeper learns before his turn. */
    private static void theLimitOfAForecast() {
        BeggarKings x = game("40 9 5 1", "beggar west 9 40 50;beggar west 1 35 10;" + POOR + BRIDGE);
        x.joinQueue(1, 0);
        Check.same("of one who is taken for a king and cannot pay", x.turnsUntilCrossing(1), -1);
        x.joinQueue(0, 1);
        Check.same("of one who is taken for a beggar after another has crossed", x.turnsUntilCrossing(1), 2);
    }

    private static void forecasts() {
        BeggarKings x = game("8 5 9 9", "beggar west 20 40 50;beggar west 20 40 50;beggar west 20 40 50;" + BRIDGE);
        for (int p = 0; p < 3; p++) {
            x.joinQueue(p, p);
        }
        int[] boxes = {0, 11, 11, 21, 21, 30, 30};
        int[] limits = {8, 3, 3, 0, 0, 0, 0};
        for (int turns = 0; turns <= 100; turns++) {
            int i = Math.min(turns, 6);
            Document.promise(44, "Returns the number of copper coins then.");
            Check.same("tollBoxAfter " + turns, x.tollBoxAfter(turns), boxes[i]);
            Document.promise(45, "Returns the limit angle then.");
            Check.same("limitAngleAfter " + turns, x.limitAngleAfter(turns), limits[i]);
        }
        for (int turns : new int[] {-1, Integer.MIN_VALUE, 101, 102, Integer.MAX_VALUE}) {
            Document.promise(44, "Throws `IllegalArgumentException` if turns is out of range");
            Check.badArgument("tollBoxAfter " + turns, () -> x.tollBoxAfter(turns));
            Document.promise(45, "Throws `IllegalArgumentException` if turns is out of range");
            Check.badArgument("limitAngleAfter " + turns, () -> x.limitAngleAfter(turns));
        }
        // a crossing in the hundredth turn is told, one in the turn after it is not
        BeggarKings y = game("8 5 9 9", "beggar west 20 40 50;".repeat(7) + "bridge 9 8 1;");
        for (int p = 0; p < 7; p++) {
            y.joinQueue(p, 0);
        }
        y.passTurns(17);
        Check.same("tollBoxAfter 99", y.tollBoxAfter(99), 54);
        Check.same("tollBoxAfter 100", y.tollBoxAfter(100), 63);
        BeggarKings z = game("8 5 9 9", "beggar west 20 40 50;".repeat(7) + "bridge 9 8 1;");
        for (int p = 0; p < 7; p++) {
            z.joinQueue(p, 0);
        }
        z.passTurns(16);
        Check.same("tollBoxAfter 100 a turn earlier", z.tollBoxAfter(100), 54);
    }

    private static void forecastsBeyondTheEnd() {
        BeggarKings x = game("30 4 1 1", "king west 9 0 0;king east 9 0 0;king east 9 0 0;" + BRIDGE);
        TurnEdges.toTurn(x, 9998);
        for (int p = 0; p < 3; p++) {
            x.joinQueue(p, 0);
        }
        int[][] crossing = {{0, 1, -1}, {-1, 0, -1}, {-1, -1, -1}};
        for (int turn = 9998; turn <= 10000; turn++) {
            Document.promise(43, "Turns beyond turn 9999 do not pass.");
            for (int p = 0; p < 3; p++) {
                Check.same("turnsUntilCrossing " + p + " in turn " + turn, x.turnsUntilCrossing(p), crossing[turn - 9998][p]);
            }
            for (int turns = 0; turns <= 100; turns++) {
                int passed = Math.min(2, turn - 9998 + turns);
                Document.promise(44, "Turns beyond turn 9999 do not pass.");
                Check.same("tollBoxAfter " + turns + " in turn " + turn, x.tollBoxAfter(turns), passed);
                Document.promise(45, "Turns beyond turn 9999 do not pass.");
                Check.same("limitAngleAfter " + turns + " in turn " + turn, x.limitAngleAfter(turns), 30 + 4 * passed);
            }
            Check.same("turn", x.turn(), turn);
            if (turn < 10000) {
                x.passTurns(1);
            }
        }
    }

    private static void obstacles() {
        Document.promise(46, "Returns the first of these that holds: 1 if all turns have passed; 2 if people cross from the other bank in the current turn; "
                + "3 if no bridge is open in it; 4 if the person has fewer copper coins than the toll plus the offer (0 if the person is not in a queue); "
                + "otherwise 0.");
        String people = "beggar west 4 0 0;beggar west 5 0 0;beggar east 4 0 0;beggar east 5 0 0;";
        BeggarKings x = game("0 0 9 5", people + "bridge 3 0 1;");
        // turn 0 is open for the west bank, turn 3 for the east bank, and no bridge is open in the turns 1 and 2
        int[][] due = {{4, 0, 2, 2}, {2, 2, 3, 3}, {3, 3, 2, 2}, {2, 2, 4, 0}};
        for (int turn = 0; turn < 4; turn++) {
            for (int p = 0; p < 4; p++) {
                Check.same("crossingObstacle " + p + " in turn " + turn, x.crossingObstacle(p), due[turn][p]);
            }
            x.passTurns(1);
        }
        for (int offer = 0; offer <= 2; offer++) {
            BeggarKings y = game("0 0 9 5", "beggar west 6 0 0;beggar east 6 0 0;" + POOR + BRIDGE);
            y.joinQueue(0, offer);
            Check.same("crossingObstacle with the offer " + offer, y.crossingObstacle(0), offer <= 1 ? 0 : 4);
            y.quitQueue(0);
            Check.same("crossingObstacle without an offer", y.crossingObstacle(0), 0);
        }
        BeggarKings z = game("0 0 9 5", people + "bridge 3 0 1;");
        TurnEdges.toTurn(z, 9999);
        Check.same("crossingObstacle of the west in turn 9999", z.crossingObstacle(1), 2);
        Check.same("crossingObstacle of the poor in turn 9999", z.crossingObstacle(2), 4);
        Check.same("crossingObstacle of the rich in turn 9999", z.crossingObstacle(3), 0);
        z.passTurns(1);
        for (int p = 0; p < 4; p++) {
            Check.same("crossingObstacle in turn 10000", z.crossingObstacle(p), 1);
        }
        // the keeper's guess decides the toll
        BeggarKings w = game("80 0 9 5", "beggar west 8 1 0;beggar west 8 0 0;beggar west 9 1 0;" + BRIDGE);
        Check.same("crossingObstacle of one who is taken for a king", w.crossingObstacle(0), 4);
        Check.same("crossingObstacle of one who is taken for a beggar", w.crossingObstacle(1), 0);
        Check.same("crossingObstacle of one who has just the king toll", w.crossingObstacle(2), 0);
    }

    private static void theLedger() {
        Document.promise(47, "Returns the absolute difference between the copper coins in all purses, on both grounds and in the toll box, "
                + "and those that all people had at the start; always 0.");
        for (int coins : new int[] {0, 1, 999}) {
            BeggarKings x = game("30 4 9 2", ("king west " + coins + " 0 0;beggar east " + coins + " 40 50;").repeat(5) + BRIDGE);
            Check.same("coinGap", x.coinGap(), 0);
            for (int p = 0; p < 10; p++) {
                int person = p;
                if (coins == 0) {
                    Check.badState("dropCoins", () -> x.dropCoins(person, 1));
                } else {
                    x.dropCoins(p, 1);
                }
                Check.same("coinGap after dropCoins", x.coinGap(), 0);
                x.joinQueue(p, 9 * p);
            }
            for (int turn = 0; turn < 12; turn++) {
                x.passTurns(1);
                Check.same("coinGap after a turn", x.coinGap(), 0);
                Check.same("the total", TermEdges.coinsOf(x), 10 * coins);
            }
        }
    }
}
