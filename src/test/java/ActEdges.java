/** The sentences of promises 48 to 63, each at both sides of the boundaries that it names. */
final class ActEdges {
    private static final String BRIDGE = AnswerEdges.BRIDGE;
    private static final String POOR = AnswerEdges.POOR;

    private ActEdges() {
    }

    static void run() {
        noSuchPerson();
        numbersOutOfRange();
        dropCoins();
        pickCoins();
        layRoyalCoin();
        liftRoyalCoin();
        notKings();
        swapRags();
        joinQueue();
        quitQueue();
        setPride();
        passTurns();
        passTurnsBeyondTheEnd();
        runScript();
        scriptsStop();
        scriptsDoWhatTheMethodsDo();
        runScriptRefused();
        writeQueue();
        outputByte();
        undo();
        undoLeavesTheRest();
        snapshots();
    }

    private static BeggarKings game(String header, String rest) {
        return TermEdges.game(header, rest);
    }

    private static void noSuchPerson() {
        AnswerEdges.person(48, "dropCoins", (x, p) -> x.dropCoins(p, 1));
        AnswerEdges.person(49, "pickCoins", (x, p) -> x.pickCoins(p, 1));
        AnswerEdges.person(52, "swapRags", (x, p) -> x.swapRags(p, p == 0 ? 1 : 0));
        AnswerEdges.person(52, "swapRags", (x, p) -> x.swapRags(p == 0 ? 1 : 0, p));
        AnswerEdges.person(53, "joinQueue", (x, p) -> x.joinQueue(p, 0));
        AnswerEdges.person(54, "quitQueue", (x, p) -> x.quitQueue(p));
        AnswerEdges.person(55, "setPride", (x, p) -> x.setPride(p, 0));
        String one = "Throws `IndexOutOfBoundsException` if one of the numbers is not that of a person";
        Document.promise(50, one);
        AnswerEdges.throwsBeyond("layRoyalCoin", (x, p) -> x.layRoyalCoin(p, 0));
        AnswerEdges.throwsBeyond("layRoyalCoin", (x, p) -> x.layRoyalCoin(0, p));
        AnswerEdges.throwsBeyond("layRoyalCoin", (x, p) -> x.layRoyalCoin(p, p));
        Document.promise(51, one);
        AnswerEdges.throwsBeyond("liftRoyalCoin", (x, p) -> x.liftRoyalCoin(p, 0));
        AnswerEdges.throwsBeyond("liftRoyalCoin", (x, p) -> x.liftRoyalCoin(0, p));
        AnswerEdges.throwsBeyond("liftRoyalCoin", (x, p) -> x.liftRoyalCoin(p, p));
    }

    /** The call throws outside of the range, and answers or is refused for another reason inside of it. */
    private static void range(int promise, String what, int low, int high, AnswerEdges.Numbered call) {
        Document.promise(promise, "Throws `IllegalArgumentException` if " + what + " is out of range");
        int[] wrong = {low - 1, low - 2, -2, -1000, Integer.MIN_VALUE, high + 1, high + 2, 10 * high + 10, 65536 + low, Integer.MAX_VALUE};
        for (int number : wrong) {
            Check.badArgument(what + " " + number, () -> call.run(new BeggarKings(), number));
        }
        for (int number = low; number <= high; number++) {
            try {
                call.run(new BeggarKings(), number);
            } catch (IllegalStateException e) {
                Check.isTrue("only coins can be too few", what.equals("coins"));
            }
        }
    }

    private static void numbersOutOfRange() {
        range(48, "coins", 1, 999, (x, coins) -> x.dropCoins(0, coins));
        range(49, "coins", 1, 999, (x, coins) -> x.pickCoins(0, coins));
        range(53, "offer", 0, 99, (x, offer) -> x.joinQueue(0, offer));
        range(55, "pride", 0, 40, (x, pride) -> x.setPride(0, pride));
        range(56, "turns", 1, 50, (x, turns) -> x.passTurns(turns));
    }

    private static void dropCoins() {
        for (int coins = 1; coins <= 999; coins++) {
            BeggarKings x = game("0 0 0 0", "beggar west 999 0 0;beggar east 998 0 0;beggar east 1 0 0;" + BRIDGE);
            Document.promise(48, "Returns the number of coins on this ground afterwards.");
            Check.same("dropCoins", x.dropCoins(0, coins), coins);
            Check.same("groundCoins west", x.groundCoins(false), coins);
            Check.same("groundCoins east", x.groundCoins(true), 0);
            Check.same("coins", x.coins(0), 999 - coins);
            Document.promise(48, "Throws `IllegalStateException` if the person has fewer coins");
            int more = 1000 - coins;
            if (more <= 999) {
                Check.badState("dropCoins of one more than there is", () -> x.dropCoins(0, more));
            }
            if (more > 1) {
                Check.same("dropCoins of all there is", x.dropCoins(0, more - 1), 999);
            }
            Check.badState("dropCoins of nothing", () -> x.dropCoins(0, 1));
            Check.badState("dropCoins 999 of 998", () -> x.dropCoins(1, 999));
            Check.same("coins after a refusal", x.coins(1), 998);
        }
    }

    private static void pickCoins() {
        for (int coins = 1; coins <= 999; coins += 2) {
            BeggarKings x = game("0 0 0 0", "beggar west " + coins + " 0 0;beggar west 3 0 0;beggar east 999 0 0;" + BRIDGE);
            x.dropCoins(2, 999);
            Document.promise(49, "Throws `IllegalStateException` if there are fewer coins on the ground");
            Check.badState("pickCoins of an empty ground", () -> x.pickCoins(1, 1));
            x.dropCoins(0, coins);
            int more = coins + 1;
            if (more <= 999) {
                Check.badState("pickCoins of one more than there is", () -> x.pickCoins(1, more));
            }
            Document.promise(49, "Returns the number of coins in the person's purse afterwards.");
            Check.same("pickCoins of all there is", x.pickCoins(1, coins), 3 + coins);
            Check.same("groundCoins west", x.groundCoins(false), 0);
            Check.same("groundCoins east", x.groundCoins(true), 999);
            Check.badState("pickCoins of an emptied ground", () -> x.pickCoins(0, 1));
        }
    }

    private static BeggarKings kings() {
        return game("0 0 0 0", "king west 0 0 0;king west 0 0 0;king east 0 0 0;beggar west 0 0 0;" + BRIDGE);
    }

    private static void layRoyalCoin() {
        Document.promise(50, "Returns the number of royal coins that the person still holds.");
        BeggarKings x = kings();
        x.layRoyalCoin(1, 1);
        x.liftRoyalCoin(0, 1);
        Check.same("layRoyalCoin of one of two", x.layRoyalCoin(0, 0), 1);
        Check.same("layRoyalCoin of the last one", x.layRoyalCoin(0, 1), 0);
        Document.promise(50, "Throws `IllegalStateException` if the first person does not hold this royal coin");
        Check.badState("layRoyalCoin of one that lies there", () -> x.layRoyalCoin(0, 0));
        Check.badState("layRoyalCoin of another's", () -> x.layRoyalCoin(0, 2));
        x.liftRoyalCoin(3, 0);
        Check.badState("layRoyalCoin of one's own that another holds", () -> x.layRoyalCoin(0, 0));
        Check.same("layRoyalCoin of the holder", x.layRoyalCoin(3, 0), 0);
        Check.same("layRoyalCoin east", x.layRoyalCoin(2, 2), 0);
        Check.isTrue("all lie on their banks", !x.isRoyalCoinEast(0) && !x.isRoyalCoinEast(1) && x.isRoyalCoinEast(2));
    }

    private static void liftRoyalCoin() {
        BeggarKings x = kings();
        Document.promise(51, "Throws `IllegalStateException` if this royal coin does not lie on the ground of the first person's bank");
        Check.badState("liftRoyalCoin of what one holds", () -> x.liftRoyalCoin(0, 0));
        Check.badState("liftRoyalCoin of what another holds", () -> x.liftRoyalCoin(1, 0));
        x.layRoyalCoin(0, 0);
        x.layRoyalCoin(2, 2);
        Check.badState("liftRoyalCoin from the east to the west ground", () -> x.liftRoyalCoin(2, 0));
        Check.badState("liftRoyalCoin from the west to the east ground", () -> x.liftRoyalCoin(0, 2));
        Document.promise(51, "Returns the number of royal coins that the person holds afterwards.");
        Check.same("liftRoyalCoin of a beggar", x.liftRoyalCoin(3, 0), 1);
        Check.same("liftRoyalCoin east", x.liftRoyalCoin(2, 2), 1);
        x.layRoyalCoin(1, 1);
        Check.same("liftRoyalCoin of a second one", x.liftRoyalCoin(3, 1), 2);
        x.joinQueue(3, 0);
        x.passTurns(1);
        x.layRoyalCoin(2, 2);
        Check.same("liftRoyalCoin of a third one, over the river", x.liftRoyalCoin(3, 2), 3);
    }

    private static void notKings() {
        BeggarKings x = kings();
        x.layRoyalCoin(0, 0);
        Document.promise(50, "Throws `IllegalArgumentException` if the second person is not a king");
        Check.badArgument("layRoyalCoin of a beggar's", () -> x.layRoyalCoin(1, 3));
        Check.badArgument("layRoyalCoin of the beggar's own", () -> x.layRoyalCoin(3, 3));
        Check.same("layRoyalCoin of a king's", x.layRoyalCoin(1, 1), 0);
        Document.promise(51, "Throws `IllegalArgumentException` if the second person is not a king");
        Check.badArgument("liftRoyalCoin of a beggar's", () -> x.liftRoyalCoin(1, 3));
        Check.badArgument("liftRoyalCoin of the beggar's own", () -> x.liftRoyalCoin(3, 3));
        Check.same("liftRoyalCoin of a king's: the first person may be a beggar", x.liftRoyalCoin(3, 0), 1);
    }

    private static void swapRags() {
        BeggarKings x = new BeggarKings();
        Document.promise(52, "Returns the number of the set of rags that the first person wears afterwards.");
        Check.same("swapRags 0 2", x.swapRags(0, 2), 2);
        Check.same("swapRags 2 1", x.swapRags(2, 1), 1);
        Check.same("swapRags 4 3", x.swapRags(4, 3), 3);
        Document.promise(52, "Throws `IllegalArgumentException` if both numbers are equal");
        for (int p = 0; p < 5; p++) {
            int person = p;
            Check.badArgument("swapRags of one", () -> x.swapRags(person, person));
        }
        Document.promise(52, "Throws `IllegalStateException` if the two people are on different banks");
        for (int west = 0; west < 3; west++) {
            for (int east = 3; east < 5; east++) {
                int p = west;
                int q = east;
                Check.badState("swapRags over the river", () -> x.swapRags(p, q));
                Check.badState("swapRags over the river", () -> x.swapRags(q, p));
            }
        }
        x.joinQueue(0, 0);
        x.passTurns(1);
        Check.same("swapRags after a crossing", x.swapRags(0, 3), 4);
        Check.badState("swapRags after a crossing", () -> x.swapRags(0, 1));
    }

    private static void joinQueue() {
        Document.promise(53, "Returns the place of the person in the queue.");
        BeggarKings x = game("0 0 0 0", "beggar west 99 0 0;".repeat(10) + BRIDGE);
        int[] offers = {50, 50, 51, 49, 0, 99, 50, 99, 0, 98};
        int[] places = {0, 1, 0, 3, 4, 0, 4, 1, 8, 2};
        for (int p = 0; p < 10; p++) {
            Check.same("joinQueue " + p, x.joinQueue(p, offers[p]), places[p]);
            Check.same("queued", x.queued(false, places[p]), p);
        }
        Document.promise(53, "Throws `IllegalStateException` if the person is in a queue");
        for (int p = 0; p < 10; p++) {
            int person = p;
            Check.badState("joinQueue again", () -> x.joinQueue(person, 0));
        }
        x.quitQueue(3);
        Check.same("joinQueue after quitting", x.joinQueue(3, 0), 9);
        x.passTurns(1);
        Check.same("joinQueue after crossing", x.joinQueue(5, 0), 0);
        Check.badState("joinQueue again on the other bank", () -> x.joinQueue(5, 0));
        BeggarKings y = game("0 0 1 1", POOR.repeat(3) + BRIDGE);
        y.joinQueue(0, 0);
        y.passTurns(1);
        Check.same("joinQueue after being turned away", y.joinQueue(0, 0), 0);
    }

    private static void quitQueue() {
        BeggarKings x = new BeggarKings();
        Document.promise(54, "Throws `IllegalStateException` if the person is not in a queue");
        Check.badState("quitQueue of one who never queued", () -> x.quitQueue(0));
        x.joinQueue(0, 0);
        x.joinQueue(1, 99);
        x.joinQueue(4, 7);
        Check.badState("quitQueue of one who does not queue beside others", () -> x.quitQueue(2));
        Document.promise(54, "Returns the offer with which the person queued.");
        Check.same("quitQueue with 0", x.quitQueue(0), 0);
        Check.same("quitQueue with 99", x.quitQueue(1), 99);
        Check.same("quitQueue east", x.quitQueue(4), 7);
        Document.promise(54, "Throws `IllegalStateException` if the person is not in a queue");
        Check.badState("quitQueue of one who quitted", () -> x.quitQueue(0));
        x.joinQueue(0, 0);
        x.joinQueue(2, 99);
        x.passTurns(1);
        Check.badState("quitQueue of one who crossed", () -> x.quitQueue(0));
        Check.badState("quitQueue of one who was turned away", () -> x.quitQueue(2));
    }

    private static void setPride() {
        Document.promise(55, "Returns the pride before.");
        BeggarKings x = new BeggarKings();
        int before = 10;
        for (int pride : new int[] {40, 0, 0, 39, 40, 1, 10}) {
            Check.same("setPride " + pride, x.setPride(0, pride), before);
            Check.same("pride", x.pride(0), pride);
            before = pride;
        }
        Check.badArgument("setPride 41", () -> x.setPride(0, 41));
        Check.same("setPride after a refusal", x.setPride(0, 3), 10);
    }

    private static void passTurns() {
        Document.promise(56, "Returns the number of crossings in them.");
        for (int turns = 1; turns <= 50; turns++) {
            BeggarKings x = game("0 0 1 1", "beggar west 1 0 0;".repeat(5) + "beggar east 1 0 0;".repeat(3) + "beggar west 0 0 0;" + BRIDGE);
            x.joinQueue(8, 3);
            for (int p = 0; p < 8; p++) {
                x.joinQueue(p, 0);
            }
            int due = Math.min(5, (turns + 1) / 2) + Math.min(3, turns / 2);
            Check.same("passTurns " + turns, x.passTurns(turns), due);
            Check.same("turn", x.turn(), turns);
            Check.same("tollBox", x.tollBox(), due);
        }
        BeggarKings y = new BeggarKings();
        Check.same("passTurns with empty queues", y.passTurns(50), 0);
    }

    private static void passTurnsBeyondTheEnd() {
        Document.promise(56, "Throws `IllegalStateException` if a turn beyond turn 9999 would pass");
        for (int left = 0; left <= 50; left++) {
            BeggarKings x = new BeggarKings();
            TurnEdges.toTurn(x, 10000 - left);
            int turns = left;
            if (left < 50) {
                Check.badState("one turn more than the " + left + " that are left", () -> x.passTurns(turns + 1));
                Check.badState("50 turns of " + left, () -> x.passTurns(50));
            }
            Check.same("turn after a refusal", x.turn(), 10000 - left);
            if (left > 0) {
                x.passTurns(left);
            }
            Check.same("turn", x.turn(), 10000);
            Check.badState("passTurns at the end", () -> x.passTurns(1));
        }
    }

    private static void runScript() {
        Document.promise(57, "Returns the number of commands that were executed; -1 if there is a parse error.");
        for (int commands = 0; commands <= 20; commands++) {
            Check.same("runScript of " + commands, Check.run(new BeggarKings(), "turn 1;".repeat(commands)), commands);
            for (int refused = 0; refused < commands; refused++) {
                String text = "turn 1;".repeat(refused) + "drop 9 1;" + "turn 1;".repeat(commands - refused - 1);
                BeggarKings x = new BeggarKings();
                Check.same("runScript of " + commands + " with a refusal at " + refused, Check.run(x, text), refused);
                Check.same("turn", x.turn(), refused);
            }
        }
        Check.same("runScript with a fault", Check.run(new BeggarKings(), "turn 1;turn"), -1);
        Document.promise(57, "The buffer is emptied.");
        for (String text : new String[] {"", "turn 1;", "drop 9 9;", "turn", "turn 51;", "x"}) {
            BeggarKings x = new BeggarKings();
            Check.type(x, text + "    ");
            x.runScript(text.length());
            Check.badArgument("runScript of one byte more after '" + text + "'", () -> x.runScript(1));
            Check.same("appendText after '" + text + "'", x.appendText(0, 0, 0, 0, 0), 20);
        }
    }

    private static void scriptsStop() {
        Document.promise(57, "Execution stops at the first command whose method would throw an exception; runScript itself does not throw then.");
        // each of these is refused for one of the exceptions of its method, and has a neighbour that is not
        String[] refused = {"drop 5 1;", "drop 2 4;", "pick 5 1;", "pick 0 1;", "lay 5 0;", "lay 0 5;", "lay 0 1;", "lay 0 3;", "lift 5 0;",
            "lift 0 5;", "lift 0 1;", "lift 0 0;", "swap 5 0;", "swap 0 5;", "swap 0 0;", "swap 2 3;", "queue 5 0;", "queue 4 0;", "quit 5;",
            "quit 0;", "pride 5 0;"};
        String[] possible = {"drop 4 1;", "drop 2 3;", "drop 0 1;pick 0 1;", "drop 3 1;pick 4 1;", "lay 3 3;", "lay 0 0;", "lay 0 0;lift 2 0;",
            "swap 4 3;", "swap 2 1;", "queue 0 99;", "quit 4;", "pride 4 40;", "turn 50;"};
        for (String command : refused) {
            BeggarKings x = new BeggarKings();
            Check.same("runScript " + command, Check.run(x, "queue 4 3;" + command + "pride 0 1;"), 1);
            Check.same("offer: the command before is executed", x.offer(4), 3);
            Check.same("pride: the command after is not executed", x.pride(0), 10);
            Check.same("errorCode", x.errorCode(), 0);
            Check.same("undoableCount", x.undoableCount(), 1);
        }
        for (String command : possible) {
            BeggarKings x = new BeggarKings();
            int commands = command.split(";").length;
            Check.same("runScript " + command, Check.run(x, "queue 4 3;" + command + "pride 0 1;"), commands + 2);
            Check.same("pride: the command after is executed", x.pride(0), 1);
        }
        for (int turns = 1; turns <= 50; turns++) {
            BeggarKings x = new BeggarKings();
            TurnEdges.toTurn(x, 9975);
            Check.same("runScript turn " + turns + " in turn 9975", Check.run(x, "turn " + turns + ";"), turns <= 25 ? 1 : 0);
            Check.same("turn", x.turn(), turns <= 25 ? 9975 + turns : 9975);
        }
    }

    private static void scriptsDoWhatTheMethodsDo() {
        Document.promise(57, "Returns the number of commands that were executed; -1 if there is a parse error.");
        // nothing of a longer script is left in a shorter one
        BeggarKings x = new BeggarKings();
        Check.same("runScript of 20", Check.run(x, "turn 1;".repeat(20)), 20);
        Check.same("runScript of 1", Check.run(x, "turn 1;"), 1);
        Check.same("turn", x.turn(), 21);
        Check.same("runScript of a faulty one", Check.run(x, "turn 1;turn 1;turn 1;turn"), -1);
        Check.same("runScript of none", Check.run(x, ""), 0);
        Check.same("turn", x.turn(), 21);
        // each command with two people who stand for different things
        BeggarKings y = new BeggarKings();
        Check.same("runScript", Check.run(y, "lay 0 0;lift 2 0;queue 2 0;turn 1;lay 2 0;lay 3 3;lift 4 3;lift 2 3;lay 4 3;lift 2 3;swap 2 4;"), 7);
        Check.same("royalHolder of the one that was laid east by another", y.royalHolder(0), -1);
        Check.same("isRoyalCoinEast of it", y.isRoyalCoinEast(0), true);
        Check.same("royalHolder of the one that was lifted", y.royalHolder(3), 4);
        Check.same("runScript of the rest", Check.run(y, "lay 4 3;lift 2 3;swap 2 4;drop 3 9;pick 4 8;queue 4 1;queue 3 2;quit 4;pride 2 9;"), 9);
        Check.same("royalHolder", y.royalHolder(3), 2);
        Check.isTrue("rags", y.rags(2) == 4 && y.rags(4) == 2);
        Check.isTrue("coins", y.coins(3) == 16 && y.coins(4) == 17 && y.groundCoins(true) == 1);
        Check.isTrue("queue", y.offer(3) == 2 && y.offer(4) == -1 && y.pride(2) == 9);
    }

    private static void runScriptRefused() {
        Document.promise(57, "Throws `IllegalArgumentException` if length is negative or greater than the number of bytes in the buffer; "
                + "the buffer is not emptied then");
        for (int length : new int[] {-1, Integer.MIN_VALUE, 21, 40, 500, 501, Integer.MAX_VALUE}) {
            BeggarKings x = new BeggarKings();
            Check.type(x, "turn 7;");
            Check.badArgument("runScript of " + length, () -> x.runScript(length));
            Check.same("undoableCount", x.undoableCount(), 0);
            Check.same("runScript of 20", x.runScript(20), 1);
            Check.same("turn", x.turn(), 7);
        }
        BeggarKings x = new BeggarKings();
        Check.badArgument("runScript of 1 of none", () -> x.runScript(1));
        Check.same("runScript of 0 of none", x.runScript(0), 0);
    }

    private static void written(BeggarKings x, boolean isEast, String due) {
        int size = x.writeQueue(isEast);
        Check.same("writeQueue", size, due.length());
        Check.same("the output", Check.output(x, size), due);
        Check.noPerson("the byte after it", () -> x.outputByte(size));
    }

    private static void writeQueue() {
        Document.promise(58, "Returns the number of bytes of the output, which is 0 for an empty queue.");
        BeggarKings x = game("40 0 0 0", "beggar west 0 40 0;beggar west 0 40 1;king west 0 0 0;king west 0 2 0;" + POOR.repeat(5)
                + "beggar east 0 40 1;" + BRIDGE);
        written(x, false, "");
        written(x, true, "");
        Document.promise(58, "Numbers are decimal.");
        x.joinQueue(9, 9);
        written(x, true, "9:9!");
        x.quitQueue(9);
        for (int offer = 0; offer <= 99; offer++) {
            x.joinQueue(9, offer);
            written(x, true, "9:" + offer + "!");
            x.quitQueue(9);
        }
        x.joinQueue(0, 10);
        x.joinQueue(1, 9);
        x.joinQueue(2, 99);
        x.joinQueue(3, 0);
        written(x, false, "2:99 0:10 1:9! 3:0!");
        Document.promise(58, "People are separated by spaces.");
        written(x, true, "");
        x.joinQueue(9, 0);
        written(x, true, "9:0!");
        x.quitQueue(2);
        x.quitQueue(3);
        written(x, false, "0:10 1:9!");
        x.quitQueue(0);
        written(x, false, "1:9!");
        BeggarKings y = game("90 0 0 0", "beggar west 0 0 0;".repeat(10) + BRIDGE);
        StringBuilder due = new StringBuilder();
        for (int p = 0; p < 10; p++) {
            y.joinQueue(p, 99);
            due.append(p == 0 ? "" : " ").append(p).append(":99!");
            written(y, false, due.toString());
        }
    }

    private static void outputByte() {
        BeggarKings x = new BeggarKings();
        Document.promise(59, "Throws `IndexOutOfBoundsException` if there is no such byte");
        Check.noPerson("outputByte of the empty output", () -> x.outputByte(0));
        x.joinQueue(0, 10);
        x.joinQueue(1, 2);
        Check.same("writeQueue", x.writeQueue(false), 9);
        for (int index : new int[] {-1, Integer.MIN_VALUE, 9, 10, 59, 63, 64, 65, Integer.MAX_VALUE}) {
            Check.noPerson("outputByte " + index, () -> x.outputByte(index));
        }
        Document.promise(59, "Returns the byte.");
        int[] bytes = {48, 58, 49, 48, 33, 32, 49, 58, 50};
        for (int index = 0; index < 9; index++) {
            Check.same("outputByte " + index, x.outputByte(index), bytes[index]);
        }
        Document.promise(59, "The output changes in writeQueue only.");
        x.saveSnapshot();
        x.quitQueue(0);
        x.undo();
        x.passTurns(3);
        Check.run(x, "turn 1;");
        Check.run(x, "x");
        x.restoreSnapshot();
        Check.load(x, "x");
        Check.load(x, NewGameTest.FIRST_GAME);
        for (int index = 0; index < 9; index++) {
            Check.same("outputByte " + index, x.outputByte(index), bytes[index]);
        }
        x.writeQueue(true);
        Check.noPerson("outputByte 0 after an empty queue", () -> x.outputByte(0));
        BeggarKings y = game("90 0 0 0", POOR.repeat(10) + BRIDGE);
        for (int p = 0; p < 10; p++) {
            y.joinQueue(p, 99);
        }
        Check.same("the longest output", y.writeQueue(false), 59);
        Document.promise(59, "Throws `IndexOutOfBoundsException` if there is no such byte");
        Check.same("its last byte", y.outputByte(58), '!');
        Check.noPerson("outputByte 59", () -> y.outputByte(59));
        y.quitQueue(9);
        y.writeQueue(false);
        Check.noPerson("outputByte 53 of a shorter output", () -> y.outputByte(53));
        Check.same("outputByte 52 of a shorter output", y.outputByte(52), '!');
    }

    private static void undo() {
        BeggarKings x = new BeggarKings();
        Document.promise(61, "Throws `IllegalStateException` if there is nothing to undo");
        Check.badState("undo on a new object", () -> x.undo());
        for (int changes = 1; changes <= 12; changes++) {
            x.passTurns(1);
            Document.promise(60, "Returns 0 to 8.");
            Check.same("undoableCount", x.undoableCount(), Math.min(8, changes));
        }
        Document.promise(61, "Returns the number of changes that can still be undone.");
        for (int left = 7; left >= 0; left--) {
            Check.same("undo", x.undo(), left);
            Check.same("undoableCount", x.undoableCount(), left);
            Check.same("turn", x.turn(), 4 + left);
        }
        Document.promise(61, "Throws `IllegalStateException` if there is nothing to undo");
        Check.badState("undo of a ninth", () -> x.undo());
        Check.same("turn", x.turn(), 4);
        x.passTurns(1);
        Check.same("undo of the only one", x.undo(), 0);
        Check.badState("undo of none", () -> x.undo());
        x.passTurns(1);
        Check.load(x, NewGameTest.FIRST_GAME);
        Check.badState("undo after a new game", () -> x.undo());
    }

    private static void undoLeavesTheRest() {
        Document.promise(61, "The input buffer, the parse error, the output and the snapshot are not affected.");
        BeggarKings x = new BeggarKings();
        x.joinQueue(0, 3);
        x.saveSnapshot();
        x.passTurns(4);
        x.joinQueue(1, 1);
        Check.run(x, "turn 51;");
        x.writeQueue(false);
        Check.type(x, "turn 9;");
        x.undo();
        x.undo();
        x.undo();
        Check.same("turn", x.turn(), 0);
        Check.same("offer", x.offer(0), -1);
        Check.same("errorCode", x.errorCode(), 2);
        Check.same("errorOffset", x.errorOffset(), 5);
        Check.same("the output", Check.output(x, 3), "1:1");
        Check.noPerson("the byte after it", () -> x.outputByte(3));
        Check.same("runScript: the buffer holds 20 bytes", x.runScript(20), 1);
        Check.same("turn", x.turn(), 9);
        Check.same("restoreSnapshot", x.restoreSnapshot(), 0);
        Check.same("offer of the snapshot", x.offer(0), 3);
        // a parse error of none is not affected either
        Check.run(x, "turn 1;");
        x.undo();
        Check.same("errorCode", x.errorCode(), 0);
        Check.same("errorOffset", x.errorOffset(), -1);
    }

    private static void snapshots() {
        BeggarKings x = new BeggarKings();
        Document.promise(63, "Throws `IllegalStateException` if there is no snapshot");
        Check.badState("restoreSnapshot on a new object", () -> x.restoreSnapshot());
        x.passTurns(2);
        x.saveSnapshot();
        x.passTurns(3);
        Document.promise(63, "Returns the value of turn() afterwards.");
        Check.same("restoreSnapshot", x.restoreSnapshot(), 2);
        Check.same("turn", x.turn(), 2);
        Document.promise(63, "The undo history is cleared.");
        Check.same("undoableCount", x.undoableCount(), 0);
        Check.badState("undo", () -> x.undo());
        Document.promise(62, "An earlier snapshot is replaced.");
        x.passTurns(1);
        x.saveSnapshot();
        Check.same("undoableCount after saveSnapshot", x.undoableCount(), 1);
        x.passTurns(1);
        Check.same("restoreSnapshot of the later one", x.restoreSnapshot(), 3);
        Check.same("restoreSnapshot, which is kept", x.restoreSnapshot(), 3);
        x.undoableCount();
        Check.load(x, "game");
        Check.same("restoreSnapshot after a faulty game", x.restoreSnapshot(), 3);
        Document.promise(63, "Throws `IllegalStateException` if there is no snapshot");
        Check.load(x, NewGameTest.FIRST_GAME);
        Check.badState("restoreSnapshot after a new game", () -> x.restoreSnapshot());
        BeggarKings y = new BeggarKings();
        TurnEdges.toTurn(y, 10000);
        y.saveSnapshot();
        Document.promise(63, "Returns the value of turn() afterwards.");
        Check.same("restoreSnapshot at the end", y.restoreSnapshot(), 10000);
    }
}
