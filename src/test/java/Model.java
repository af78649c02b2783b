import java.util.ArrayList;
import java.util.List;
import java.util.regex.Matcher;
import java.util.regex.Pattern;

/**
 * The game once more, written from the document in another style (lists, whole copies, a sort for
 * the queues, regular expressions for the texts), so that a slip in one of the two shows.
 */
final class Model {
    static final class Person {
        boolean king;
        boolean east;
        int coins;
        int pride;
        int rags;
        int crossings;
        int offer = -1;
        long joined;

        Person copy() {
            Person p = new Person();
            p.king = king;
            p.east = east;
            p.coins = coins;
            p.pride = pride;
            p.rags = rags;
            p.crossings = crossings;
            p.offer = offer;
            p.joined = joined;
            return p;
        }
    }

    static final class Game {
        List<Person> people = new ArrayList<>();
        List<Integer> ranks = new ArrayList<>();
        List<int[]> bridges = new ArrayList<>();
        /** The place of each royal coin: a person, or -1 for the west ground and -2 for the east one. */
        List<Integer> royal = new ArrayList<>();
        List<Boolean> counted = new ArrayList<>();
        int limit;
        int step;
        int kingToll;
        int beggarToll;
        int turn;
        int box;
        int westGround;
        int eastGround;
        long clock;

        Game copy() {
            Game g = new Game();
            for (Person p : people) {
                g.people.add(p.copy());
            }
            g.ranks = ranks;
            g.bridges = bridges;
            g.royal = new ArrayList<>(royal);
            g.counted = new ArrayList<>(counted);
            g.limit = limit;
            g.step = step;
            g.kingToll = kingToll;
            g.beggarToll = beggarToll;
            g.turn = turn;
            g.box = box;
            g.westGround = westGround;
            g.eastGround = eastGround;
            g.clock = clock;
            return g;
        }

        List<Integer> queue(boolean east) {
            List<Integer> queue = new ArrayList<>();
            for (int p = 0; p < people.size(); p++) {
                if (people.get(p).east == east && people.get(p).offer >= 0) {
                    queue.add(p);
                }
            }
            queue.sort((a, b) -> {
                Person x = people.get(a);
                Person y = people.get(b);
                return x.offer != y.offer ? y.offer - x.offer : Long.compare(x.joined, y.joined);
            });
            return queue;
        }

        int bow(Person p, int raw) {
            int angle = Math.min(90, Math.max(0, raw));
            return p.king ? angle / 2 : angle;
        }

        int keeperBow(int person, int set) {
            Person p = people.get(person);
            return bow(p, 80 - ranks.get(set) - p.pride);
        }

        int keeperBow(int person) {
            return keeperBow(person, people.get(person).rags);
        }

        int toll(int person, int set) {
            return keeperBow(person, set) < limit ? kingToll : beggarToll;
        }

        int toll(int person) {
            return toll(person, people.get(person).rags);
        }

        boolean open(int[] bridge) {
            return turn % bridge[0] == bridge[1];
        }

        int pass() {
            int crossings = 0;
            boolean fromEast = turn % 2 == 1;
            for (int[] bridge : bridges) {
                int free = open(bridge) ? bridge[2] : 0;
                while (free > 0 && !queue(fromEast).isEmpty()) {
                    if (tries(queue(fromEast).get(0))) {
                        free--;
                        crossings++;
                    }
                }
            }
            turn++;
            return crossings;
        }

        private boolean tries(int person) {
            Person p = people.get(person);
            int price = toll(person) + p.offer;
            boolean asKing = keeperBow(person) < limit;
            p.offer = -1;
            if (p.coins < price) {
                return false;
            }
            p.coins -= price;
            box += price;
            p.east = !p.east;
            p.crossings++;
            for (int k = 0; k < royal.size(); k++) {
                if (people.get(k).king && royal.get(k) == person) {
                    counted.set(k, true);
                }
            }
            if (asKing && !p.king) {
                limit -= Math.min(step, limit);
            }
            if (!asKing && p.king) {
                limit += Math.min(step, 90 - limit);
            }
            return true;
        }

        int held(int person) {
            int held = 0;
            for (int k = 0; k < royal.size(); k++) {
                if (people.get(k).king && royal.get(k) == person) {
                    held++;
                }
            }
            return held;
        }
    }

    private static final class ParseError extends Exception {
        final int code;
        final int offset;

        ParseError(int code, int offset) {
            this.code = code;
            this.offset = offset;
        }
    }

    private static final Pattern TOKEN = Pattern.compile("[ \\n]*+(?:([a-z]+)|([0-9]+)|(;)|(\\z)|([\\x00-\\xff]))");

    /** A text and how far it has been read. */
    private static final class Tokens {
        final String text;
        int offset;
        int next;
        String word;
        String number;
        boolean semicolon;
        boolean end;

        Tokens(String text) {
            this.text = text;
            step();
        }

        void step() {
            Matcher m = TOKEN.matcher(text).region(next, text.length());
            if (!m.lookingAt()) {
                throw new AssertionError(text);
            }
            word = m.group(1);
            number = m.group(2);
            semicolon = m.group(3) != null;
            end = m.group(4) != null;
            for (int i = 1; i <= 5; i++) {
                offset = m.group(i) != null ? m.start(i) : offset;
            }
            next = m.end();
        }

        ParseError error(int code) {
            return new ParseError(code, offset);
        }

        int number(int low, int high) throws ParseError {
            if (number == null) {
                throw error(1);
            }
            java.math.BigInteger value = new java.math.BigInteger(number);
            if (value.compareTo(java.math.BigInteger.valueOf(low)) < 0 || value.compareTo(java.math.BigInteger.valueOf(high)) > 0) {
                throw error(2);
            }
            step();
            return value.intValue();
        }

        String word(String... allowed) throws ParseError {
            String got = word;
            if (got == null || !List.of(allowed).contains(got)) {
                throw error(1);
            }
            step();
            return got;
        }

        void semicolon() throws ParseError {
            if (!semicolon) {
                throw error(1);
            }
            step();
        }
    }

    Game game;
    Game snapshot;
    final List<Game> past = new ArrayList<>();
    final StringBuilder buffer = new StringBuilder();
    String output = "";
    int errorCode;
    int errorOffset = -1;

    Model() {
        try {
            game = parseGame(NewGameTest.FIRST_GAME);
        } catch (ParseError e) {
            throw new AssertionError(e);
        }
    }

    private static Game parseGame(String text) throws ParseError {
        Tokens t = new Tokens(text);
        Game g = new Game();
        t.word("game");
        g.limit = t.number(0, 90);
        g.step = t.number(0, 9);
        g.kingToll = t.number(0, 99);
        g.beggarToll = t.number(0, 99);
        t.semicolon();
        while (g.people.size() < 3 || "king".equals(t.word) || "beggar".equals(t.word)) {
            if (g.people.size() == 10) {
                throw t.error(3);
            }
            Person p = new Person();
            p.king = t.word("king", "beggar").equals("king");
            p.east = t.word("west", "east").equals("east");
            p.coins = t.number(0, 999);
            p.pride = t.number(0, 40);
            p.rags = g.people.size();
            g.ranks.add(t.number(0, 50));
            t.semicolon();
            g.royal.add(g.people.size());
            g.counted.add(false);
            g.people.add(p);
        }
        while (g.bridges.isEmpty() || !t.end) {
            if (g.bridges.size() == 4 && "bridge".equals(t.word)) {
                throw t.error(3);
            }
            t.word("bridge");
            int period = t.number(1, 9);
            g.bridges.add(new int[] {period, t.number(0, period - 1), t.number(1, 3)});
            t.semicolon();
        }
        return g;
    }

    private static List<String[]> parseScript(String text) throws ParseError {
        Tokens t = new Tokens(text);
        List<String[]> commands = new ArrayList<>();
        while (!t.end) {
            if (commands.size() == 20 && t.word != null && t.word.matches("drop|pick|lay|lift|swap|queue|quit|pride|turn")) {
                throw t.error(3);
            }
            String verb = t.word("drop", "pick", "lay", "lift", "swap", "queue", "quit", "pride", "turn");
            int a = verb.equals("turn") ? t.number(1, 50) : t.number(0, 9);
            int b = 0;
            switch (verb) {
                case "drop", "pick" -> b = t.number(1, 999);
                case "lay", "lift", "swap" -> b = t.number(0, 9);
                case "queue" -> b = t.number(0, 99);
                case "pride" -> b = t.number(0, 40);
                default -> { }
            }
            t.semicolon();
            commands.add(new String[] {verb, "" + a, "" + b});
        }
        return commands;
    }

    int append(int... words) {
        if (buffer.length() + 20 > 500) {
            return -1;
        }
        for (int w : words) {
            for (byte b : java.nio.ByteBuffer.allocate(4).putInt(w).array()) {
                buffer.append((char) (b & 255));
            }
        }
        return buffer.length();
    }

    private String takeText(int length) {
        argument(length >= 0 && length <= buffer.length());
        String text = buffer.substring(0, length);
        buffer.setLength(0);
        errorCode = 0;
        errorOffset = -1;
        return text;
    }

    int load(int length) {
        String text = takeText(length);
        try {
            game = parseGame(text);
        } catch (ParseError e) {
            errorCode = e.code;
            errorOffset = e.offset;
            return -1;
        }
        past.clear();
        snapshot = null;
        return game.people.size();
    }

    int script(int length) {
        String text = takeText(length);
        List<String[]> commands;
        try {
            commands = parseScript(text);
        } catch (ParseError e) {
            errorCode = e.code;
            errorOffset = e.offset;
            return -1;
        }
        remember();
        int done = 0;
        for (String[] c : commands) {
            try {
                obey(c[0], Integer.parseInt(c[1]), Integer.parseInt(c[2]));
            } catch (IndexOutOfBoundsException | IllegalArgumentException | IllegalStateException e) {
                return done;
            }
            done++;
        }
        return done;
    }

    private void remember() {
        past.add(game.copy());
        if (past.size() > 8) {
            past.remove(0);
        }
    }

    int change(String verb, int a, int b) {
        Game before = game.copy();
        int answer = obey(verb, a, b);
        Game after = game;
        game = before;
        remember();
        game = after;
        return answer;
    }

    void person(int p) {
        if (p < 0 || p >= game.people.size()) {
            throw new IndexOutOfBoundsException();
        }
    }

    static void argument(boolean sound) {
        if (!sound) {
            throw new IllegalArgumentException();
        }
    }

    static void state(boolean possible) {
        if (!possible) {
            throw new IllegalStateException();
        }
    }

    void king(int k) {
        person(k);
        argument(game.people.get(k).king);
    }

    private int obey(String verb, int a, int b) {
        if (verb.equals("turn")) {
            argument(a >= 1 && a <= 50);
            state(game.turn + a <= 10000);
            int crossings = 0;
            for (int i = 0; i < a; i++) {
                crossings += game.pass();
            }
            return crossings;
        }
        person(a);
        Person p = game.people.get(a);
        int ground = p.east ? game.eastGround : game.westGround;
        int lying = p.east ? -2 : -1;
        switch (verb) {
            case "drop":
                argument(b >= 1 && b <= 999);
                state(p.coins >= b);
                p.coins -= b;
                return moveGround(p.east, b);
            case "pick":
                argument(b >= 1 && b <= 999);
                state(ground >= b);
                moveGround(p.east, -b);
                return p.coins += b;
            case "lay":
                person(b);
                king(b);
                state(game.royal.get(b) == a);
                game.royal.set(b, lying);
                return game.held(a);
            case "lift":
                person(b);
                king(b);
                state(game.royal.get(b) == lying);
                game.royal.set(b, a);
                return game.held(a);
            case "swap":
                person(b);
                argument(a != b);
                Person q = game.people.get(b);
                state(p.east == q.east);
                int rags = p.rags;
                p.rags = q.rags;
                q.rags = rags;
                return p.rags;
            case "queue":
                argument(b >= 0 && b <= 99);
                state(p.offer < 0);
                p.offer = b;
                p.joined = game.clock++;
                return game.queue(p.east).indexOf(a);
            case "quit":
                state(p.offer >= 0);
                int offer = p.offer;
                p.offer = -1;
                return offer;
            default:
                argument(b >= 0 && b <= 40);
                int pride = p.pride;
                p.pride = b;
                return pride;
        }
    }

    private int moveGround(boolean east, int coins) {
        return east ? (game.eastGround += coins) : (game.westGround += coins);
    }

    int undo() {
        state(!past.isEmpty());
        game = past.remove(past.size() - 1);
        return past.size();
    }

    void save() {
        snapshot = game.copy();
    }

    int restore() {
        state(snapshot != null);
        game = snapshot.copy();
        past.clear();
        return game.turn;
    }

    int write(boolean east) {
        List<String> parts = new ArrayList<>();
        for (int p : game.queue(east)) {
            parts.add(p + ":" + game.people.get(p).offer + (game.keeperBow(p) < game.limit ? "!" : ""));
        }
        output = String.join(" ", parts);
        return output.length();
    }

    int until(int person) {
        person(person);
        Game g = game.copy();
        for (int turns = 0; turns < 100 && g.turn < 10000; turns++) {
            if (g.people.get(person).offer < 0) {
                return -1;
            }
            int before = g.people.get(person).crossings;
            g.pass();
            if (g.people.get(person).crossings > before) {
                return turns;
            }
        }
        return -1;
    }

    Game after(int turns) {
        argument(turns >= 0 && turns <= 100);
        Game g = game.copy();
        for (int i = 0; i < turns && g.turn < 10000; i++) {
            g.pass();
        }
        return g;
    }

    int firstOffer(int person) {
        person(person);
        Game g = game.copy();
        Person p = g.people.get(person);
        p.joined = Long.MAX_VALUE;
        for (p.offer = 0; p.offer <= 99; p.offer++) {
            if (g.queue(p.east).get(0) == person) {
                return p.offer;
            }
        }
        return -1;
    }

    int obstacle(int person) {
        person(person);
        Person p = game.people.get(person);
        if (game.turn == 10000) {
            return 1;
        }
        if (p.east != (game.turn % 2 == 1)) {
            return 2;
        }
        if (game.bridges.stream().noneMatch(game::open)) {
            return 3;
        }
        return p.coins < game.toll(person) + Math.max(p.offer, 0) ? 4 : 0;
    }

    int best(java.util.function.IntUnaryOperator value) {
        int best = 0;
        for (int i = 0; i < game.people.size(); i++) {
            best = value.applyAsInt(i) < value.applyAsInt(best) ? i : best;
        }
        return best;
    }
}
