import java.nio.charset.StandardCharsets;

/** What the tests share: comparing answers, expecting exceptions, and typing texts into a buffer. */
final class Check {
    interface Call {
        long run();
    }

    private static int checks = 0;
    private static int wrong = 0;
    private static String subject = "";

    private Check() {
    }

    /** Names what the following checks are about, for the messages of those that fail. */
    static void about(String what) {
        subject = what.isEmpty() ? "" : what + ": ";
    }

    static void same(String what, long got, long due) {
        checks++;
        if (got != due) {
            report(what + " answered " + got + ", due is " + due);
        }
    }

    static void same(String what, boolean got, boolean due) {
        same(what, got ? 1 : 0, due ? 1 : 0);
    }

    static void same(String what, String got, String due) {
        checks++;
        if (!got.equals(due)) {
            report(what + " answered '" + got + "', due is '" + due + "'");
        }
    }

    static void sameReal(String what, double got, double due) {
        checks++;
        if (Double.doubleToLongBits(got) != Double.doubleToLongBits(due)) {
            report(what + " answered " + got + ", due is " + due);
        }
    }

    static void isTrue(String what, boolean holds) {
        same(what, holds, true);
    }

    static void noPerson(String what, Call call) {
        throwsExactly(what, IndexOutOfBoundsException.class, call);
    }

    static void badArgument(String what, Call call) {
        throwsExactly(what, IllegalArgumentException.class, call);
    }

    static void badState(String what, Call call) {
        throwsExactly(what, IllegalStateException.class, call);
    }

    /** The class must be the very one: a subclass would be an exception of the machine. */
    private static void throwsExactly(String what, Class<?> due, Call call) {
        checks++;
        try {
            long got = call.run();
            report(what + " answered " + got + ", due is " + due.getSimpleName());
        } catch (RuntimeException e) {
            if (e.getClass() != due) {
                report(what + " threw " + e + ", due is " + due.getSimpleName());
            }
        }
    }

    static void report(String message) {
        wrong++;
        System.out.println(subject + message);
    }

    /** Appends the text, filled up with spaces to a multiple of 20 bytes, and answers its length. */
    static int type(BeggarKings game, String text) {
        return type(game, text.getBytes(StandardCharsets.ISO_8859_1));
    }

    static int type(BeggarKings game, byte[] text) {
        for (int i = 0; i < text.length; i += 20) {
            game.appendText(word(text, i), word(text, i + 4), word(text, i + 8), word(text, i + 12), word(text, i + 16));
        }
        return text.length;
    }

    private static int word(byte[] text, int from) {
        int word = 0;
        for (int i = from; i < from + 4; i++) {
            word = word << 8 | (i < text.length ? text[i] & 255 : ' ');
        }
        return word;
    }

    static int load(BeggarKings game, String text) {
        return game.loadGame(type(game, text));
    }

    static BeggarKings loaded(String text) {
        BeggarKings game = new BeggarKings();
        isTrue("the text of a game is sound: " + text, load(game, text) >= 3);
        return game;
    }

    static int run(BeggarKings game, String script) {
        return game.runScript(type(game, script));
    }

    static String output(BeggarKings game, int size) {
        StringBuilder text = new StringBuilder();
        for (int i = 0; i < size; i++) {
            text.append((char) game.outputByte(i));
        }
        return text.toString();
    }

    /** Every answer that tells something of the game, so that two positions can be compared whole. */
    static String state(BeggarKings g) {
        StringBuilder s = new StringBuilder();
        s.append("turn ").append(g.turn()).append(" limit ").append(g.limitAngle()).append(" box ").append(g.tollBox());
        s.append(" ground ").append(g.groundCoins(false)).append(' ').append(g.groundCoins(true));
        s.append(" people ").append(g.personCount()).append(" kings ").append(g.kingCount());
        for (int p = 0; p < g.personCount(); p++) {
            s.append(" [").append(g.isKing(p)).append(' ').append(g.isEast(p)).append(' ').append(g.coins(p));
            s.append(' ').append(g.pride(p)).append(' ').append(g.rags(p)).append(' ').append(g.rank(p));
            s.append(' ').append(g.crossings(p)).append(' ').append(g.offer(p)).append(' ').append(g.tollOf(p));
            s.append(' ').append(g.cheapestRags(p)).append(' ').append(g.royalCoins(p)).append(' ').append(g.crossingObstacle(p));
            if (g.isKing(p)) {
                s.append(' ').append(g.royalHolder(p)).append(' ').append(g.isRoyalCoinEast(p)).append(' ').append(g.isCounted(p));
            }
            s.append(']');
        }
        for (int bank = 0; bank < 2; bank++) {
            s.append(" queue");
            for (int place = 0; place < g.queueLength(bank == 1); place++) {
                s.append(' ').append(g.queued(bank == 1, place));
            }
        }
        s.append(" richest ").append(g.richest()).append(" wrong ").append(g.wrongGuesses()).append(" stiffest ").append(g.stiffest());
        s.append(" mean ").append(g.meanBow()).append(" counted ").append(g.countedRoyalCoins()).append(" gap ").append(g.coinGap());
        s.append(" banks ").append(g.bankCount(false)).append(' ').append(g.bankCount(true));
        s.append(" bridges ").append(g.bridgeCount()).append(" room ").append(g.room());
        for (int turns = 0; turns <= 20; turns++) {
            s.append(' ').append(g.tollBoxAfter(turns));
        }
        return s.toString();
    }

    /** Ends the test with what its checks found. */
    static void finish() {
        System.out.println(checks + " checks, " + wrong + " wrong");
        if (wrong != 0) {
            System.exit(1);
        }
    }
}
