import java.nio.charset.StandardCharsets;
import java.util.Random;

/** Long runs of calls on the class and on the model, with the same answers at every call. */
public final class ModelTest {
    private static final String[] VERBS = {"drop", "pick", "lay", "lift", "swap", "queue", "quit", "pride", "turn"};
    private static final String NOISE = "abgkqtz;0129 \n\t!\u00e9\u0000K";
    private static final int RUNS = 600;
    private static final int CALLS = 512;

    private final Random random;
    private final int run;
    private final BeggarKings x = new BeggarKings();
    private final Model m = new Model();
    private String call = "";

    private ModelTest(int run) {
        this.run = run;
        random = new Random(run);
    }

    public static void main(String[] args) {
        for (int run = 1; run <= RUNS; run++) {
            new ModelTest(run).play();
        }
        Check.finish();
    }

    private void play() {
        boolean toTheEnd = run % 20 == 0;
        if (toTheEnd) {
            for (int i = 0; i < 199; i++) {
                x.passTurns(50);
                m.change("turn", 50, 0);
            }
        }
        for (int i = 0; i < CALLS; i++) {
            step(i, toTheEnd && i < 100);
        }
    }

    private void step(int number, boolean keepsGame) {
        int kind = random.nextInt(100);
        if (kind < 60) {
            change();
        } else if (kind < 64) {
            typeAndRead(script(), false);
        } else if (kind < 67 && !keepsGame) {
            typeAndRead(gameText(), true);
        } else if (kind < 72) {
            compare("undo", x::undo, m::undo);
        } else if (kind < 74) {
            x.saveSnapshot();
            m.save();
        } else if (kind < 76) {
            compare("restoreSnapshot", x::restoreSnapshot, m::restore);
        } else if (kind < 80) {
            boolean east = random.nextBoolean();
            compare("writeQueue", () -> x.writeQueue(east), () -> m.write(east));
        } else {
            forecasts();
        }
        everything("run " + run + " after call " + number + " " + call);
    }

    private int odd(int low, int high) {
        switch (random.nextInt(40)) {
            case 0:
                return low - 1;
            case 1:
                return high + 1;
            case 2:
                return random.nextInt();
            default:
                return low + random.nextInt(high - low + 1);
        }
    }

    private int somebody() {
        return odd(0, m.game.people.size() - 1);
    }

    private void change() {
        String verb = VERBS[random.nextInt(VERBS.length)];
        if (random.nextInt(4) == 0) {
            verb = "queue";
        }
        int a = verb.equals("turn") ? random.nextInt(4) == 0 ? odd(1, 50) : odd(1, 2) : somebody();
        int b = second(verb);
        String v = verb;
        compare(v + " " + a + " " + b, () -> called(v, a, b), () -> m.change(v, a, b));
    }

    private int second(String verb) {
        switch (verb) {
            case "drop":
            case "pick":
                return random.nextInt(3) == 0 ? odd(1, 999) : odd(1, 20);
            case "queue":
                return random.nextInt(3) == 0 ? odd(0, 99) : odd(0, 6);
            case "pride":
                return odd(0, 40);
            default:
                return somebody();
        }
    }

    private long called(String verb, int a, int b) {
        switch (verb) {
            case "drop":
                return x.dropCoins(a, b);
            case "pick":
                return x.pickCoins(a, b);
            case "lay":
                return x.layRoyalCoin(a, b);
            case "lift":
                return x.liftRoyalCoin(a, b);
            case "swap":
                return x.swapRags(a, b);
            case "queue":
                return x.joinQueue(a, b);
            case "quit":
                return x.quitQueue(a);
            case "pride":
                return x.setPride(a, b);
            default:
                return x.passTurns(a);
        }
    }

    private String script() {
        StringBuilder text = new StringBuilder();
        int commands = random.nextInt(5) == 0 ? 19 + random.nextInt(4) : random.nextInt(8);
        for (int i = 0; i < commands; i++) {
            String verb = VERBS[random.nextInt(VERBS.length)];
            int a = verb.equals("turn") ? 1 + random.nextInt(random.nextInt(3) == 0 ? 50 : 3) : random.nextInt(m.game.people.size());
            text.append(verb).append(' ').append(a);
            if (!verb.equals("turn") && !verb.equals("quit")) {
                text.append(' ').append(Math.abs(second(verb) % 1000));
            }
            text.append(';');
        }
        return spoiled(text);
    }

    private String gameText() {
        StringBuilder text = new StringBuilder("game ");
        text.append(random.nextInt(91)).append(' ').append(random.nextInt(10)).append(' ');
        text.append(random.nextInt(30)).append(' ').append(random.nextInt(30)).append(';');
        int people = random.nextInt(4) == 0 ? 9 + random.nextInt(3) : 2 + random.nextInt(6);
        for (int p = 0; p < people; p++) {
            text.append(random.nextInt(3) == 0 ? "king " : "beggar ").append(random.nextBoolean() ? "west " : "east ");
            text.append(random.nextInt(random.nextBoolean() ? 1000 : 60)).append(' ').append(random.nextInt(41));
            text.append(' ').append(random.nextInt(51)).append(';');
        }
        int bridges = random.nextInt(10) == 0 ? random.nextInt(6) : 1 + random.nextInt(3);
        for (int b = 0; b < bridges; b++) {
            int period = 1 + random.nextInt(random.nextBoolean() ? 9 : 2);
            text.append("bridge ").append(period).append(' ').append(random.nextInt(period)).append(' ');
            text.append(1 + random.nextInt(3)).append(';');
        }
        return spoiled(text);
    }

    private String spoiled(StringBuilder text) {
        while (random.nextInt(3) == 0 && text.length() > 0) {
            int place = random.nextInt(text.length());
            char noise = NOISE.charAt(random.nextInt(NOISE.length()));
            switch (random.nextInt(4)) {
                case 0:
                    text.insert(place, noise);
                    break;
                case 1:
                    text.setCharAt(place, noise);
                    break;
                case 2:
                    text.deleteCharAt(place);
                    break;
                default:
                    text.insert(place, ' ');
                    break;
            }
        }
        return text.toString();
    }

    private void typeAndRead(String text, boolean isGame) {
        byte[] bytes = text.getBytes(StandardCharsets.ISO_8859_1);
        for (int i = 0; i < bytes.length; i += 20) {
            int[] w = new int[5];
            for (int j = 0; j < 20; j++) {
                w[j / 4] = w[j / 4] << 8 | (i + j < bytes.length ? bytes[i + j] & 255 : ' ');
            }
            compare("appendText", () -> x.appendText(w[0], w[1], w[2], w[3], w[4]), () -> m.append(w));
        }
        int length = random.nextInt(8) == 0 ? odd(0, bytes.length) : bytes.length;
        if (isGame) {
            compare("loadGame " + text, () -> x.loadGame(length), () -> m.load(length));
        } else {
            compare("runScript " + text, () -> x.runScript(length), () -> m.script(length));
        }
    }

    private void forecasts() {
        int p = somebody();
        int q = somebody();
        int turns = odd(0, 100);
        Model.Game g = m.game;
        compare("turnsUntilCrossing " + p, () -> x.turnsUntilCrossing(p), () -> m.until(p));
        compare("tollBoxAfter " + turns, () -> x.tollBoxAfter(turns), () -> m.after(turns).box);
        compare("limitAngleAfter " + turns, () -> x.limitAngleAfter(turns), () -> m.after(turns).limit);
        compare("firstPlaceOffer " + p, () -> x.firstPlaceOffer(p), () -> m.firstOffer(p));
        compare("crossingObstacle " + p, () -> x.crossingObstacle(p), () -> m.obstacle(p));
        compare("cheapestRags " + p, () -> x.cheapestRags(p), () -> {
            m.person(p);
            return m.best(set -> g.toll(p, set));
        });
        compare("bowTo " + p + " " + q, () -> x.bowTo(p, q), () -> {
            m.person(p);
            m.person(q);
            Model.argument(p != q);
            Model.Person bowing = g.people.get(p);
            return g.bow(bowing, 45 + g.ranks.get(g.people.get(q).rags) - g.ranks.get(bowing.rags) - bowing.pride);
        });
        compare("royalHolder " + p, () -> x.royalHolder(p), () -> {
            m.king(p);
            return Math.max(-1, g.royal.get(p));
        });
    }

    private void compare(String what, Check.Call got, Check.Call due) {
        call = what;
        Check.same("run " + run + ": " + what, outcome(got), outcome(due));
    }

    private static String outcome(Check.Call call) {
        try {
            return "" + call.run();
        } catch (IndexOutOfBoundsException | IllegalArgumentException | IllegalStateException e) {
            return e.getClass().getSimpleName();
        }
    }

    private void everything(String when) {
        Check.same(when, told(), expected());
    }

    private String told() {
        StringBuilder s = new StringBuilder();
        s.append(x.turn()).append(' ').append(x.limitAngle()).append(' ').append(x.tollBox()).append(' ');
        s.append(x.groundCoins(false)).append(' ').append(x.groundCoins(true)).append(' ').append(x.personCount()).append(' ');
        s.append(x.kingCount()).append(' ').append(x.bankCount(false)).append(' ').append(x.bankCount(true)).append('\n');
        for (int p = 0; p < x.personCount(); p++) {
            s.append(x.isKing(p)).append(x.isEast(p)).append(x.coins(p)).append(' ').append(x.pride(p)).append(' ');
            s.append(x.rags(p)).append(' ').append(x.rank(p)).append(' ').append(x.wearer(x.rags(p))).append(' ');
            s.append(x.crossings(p)).append(' ').append(x.offer(p)).append(' ').append(x.bowToKeeper(p)).append(' ');
            s.append(x.isTakenForKing(p)).append(x.tollOf(p)).append(' ').append(x.royalCoins(p)).append(' ');
            if (x.isKing(p)) {
                s.append(x.royalHolder(p)).append(x.isRoyalCoinEast(p)).append(x.isCounted(p));
            }
            s.append('\n');
        }
        s.append(x.richest()).append(' ').append(x.wrongGuesses()).append(' ').append(x.stiffest()).append(' ').append(x.meanBow());
        s.append(' ').append(x.countedRoyalCoins()).append(' ').append(x.countedShare()).append(' ').append(x.coinGap()).append('\n');
        for (boolean east : new boolean[] {false, true}) {
            for (int place = -1; place <= x.queueLength(east); place++) {
                s.append(x.queued(east, place)).append(' ');
            }
        }
        for (int b = 0; b < x.bridgeCount(); b++) {
            s.append(x.isOpen(b));
        }
        s.append(x.room()).append(' ').append(x.undoableCount()).append(' ').append(x.errorCode()).append(' ').append(x.errorOffset());
        s.append('\n').append(Check.output(x, m.output.length()));
        return s.toString();
    }

    private String expected() {
        Model.Game g = m.game;
        StringBuilder s = new StringBuilder();
        long kings = g.people.stream().filter(p -> p.king).count();
        long east = g.people.stream().filter(p -> p.east).count();
        s.append(g.turn).append(' ').append(g.limit).append(' ').append(g.box).append(' ').append(g.westGround).append(' ');
        s.append(g.eastGround).append(' ').append(g.people.size()).append(' ').append(kings).append(' ');
        s.append(g.people.size() - east).append(' ').append(east).append('\n');
        int wrong = 0;
        int angles = 0;
        int counted = 0;
        for (int p = 0; p < g.people.size(); p++) {
            Model.Person q = g.people.get(p);
            boolean asKing = g.keeperBow(p) < g.limit;
            s.append(q.king).append(q.east).append(q.coins).append(' ').append(q.pride).append(' ').append(q.rags).append(' ');
            s.append(g.ranks.get(p)).append(' ').append(p).append(' ').append(q.crossings).append(' ').append(q.offer);
            s.append(' ').append(g.keeperBow(p)).append(' ').append(asKing).append(g.toll(p)).append(' ').append(g.held(p)).append(' ');
            if (q.king) {
                int place = g.royal.get(p);
                boolean isEast = place == -2 || place >= 0 && g.people.get(place).east;
                s.append(Math.max(-1, place)).append(isEast).append(g.counted.get(p));
                counted += g.counted.get(p) ? 1 : 0;
            }
            wrong += asKing == q.king ? 0 : 1;
            angles += g.keeperBow(p);
            s.append('\n');
        }
        s.append(m.best(p -> -g.people.get(p).coins)).append(' ').append(wrong).append(' ').append(m.best(g::keeperBow)).append(' ');
        s.append((double) angles / (double) g.people.size()).append(' ').append(counted).append(' ');
        s.append(kings == 0 ? 0.0f : (float) counted / (float) kings).append(" 0\n");
        for (boolean bank : new boolean[] {false, true}) {
            s.append("-1 ");
            for (int p : g.queue(bank)) {
                s.append(p).append(' ');
            }
            s.append("-1 ");
        }
        int room = 0;
        for (int[] bridge : g.bridges) {
            s.append(g.open(bridge));
            room += g.open(bridge) ? bridge[2] : 0;
        }
        s.append(room).append(' ').append(m.past.size()).append(' ').append(m.errorCode).append(' ').append(m.errorOffset);
        s.append('\n').append(m.output);
        return s.toString();
    }
}
