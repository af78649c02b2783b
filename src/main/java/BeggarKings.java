/** A simulation of hidden kings among beggars who cross a river. */
public final class BeggarKings {
    private static final int MIN_PEOPLE = 3;
    private static final int MAX_PEOPLE = 10;
    private static final int MAX_BRIDGES = 4;
    private static final int MAX_COMMANDS = 20;
    private static final int MAX_ANGLE = 90;
    private static final int MAX_OFFER = 99;
    private static final int BUFFER_SIZE = 500;
    private static final int BYTES_A_CALL = 20;
    private static final int OUTPUT_SIZE = 64;
    private static final int HISTORY_SIZE = 8;
    private static final int LAST_TURN = 9999;
    private static final int FORECAST_TURNS = 100;

    private static final int WEST = 0;
    private static final int EAST = 1;
    private static final int NONE = -1;

    private static final int NOT_ALLOWED = 1;
    private static final int OUT_OF_RANGE = 2;
    private static final int TOO_MANY = 3;

    private static final int NO_FAULT = 0;
    private static final int NO_SUCH_PERSON = 1;
    private static final int WRONG_ARGUMENT = 2;
    private static final int WRONG_STATE = 3;

    private final Text text = new Text();
    private final Setting draft = new Setting();
    private final Setting setting = new Setting();
    private final Position position = new Position(setting);
    private final Position forecast = new Position(setting);
    private final Position snapshot = new Position(setting);
    private final History history = new History(setting);
    private final Script script = new Script();
    private final int[] output = new int[OUTPUT_SIZE];
    private int outputSize;
    private boolean hasSnapshot;

    public BeggarKings() {
        setting.begin(30, 4, 9, 2);
        setting.addPerson(1, WEST, 40, 10, 20);
        setting.addPerson(0, WEST, 12, 0, 5);
        setting.addPerson(0, WEST, 3, 5, 40);
        setting.addPerson(1, EAST, 25, 30, 0);
        setting.addPerson(0, EAST, 9, 20, 15);
        setting.addBridge(1, 0, 1);
        setting.addBridge(3, 1, 2);
        position.begin();
    }

    // ---- input

    public int appendText(int a, int b, int c, int d, int e) {
        if (text.size > BUFFER_SIZE - BYTES_A_CALL) {
            return NONE;
        }
        text.appendWord(a);
        text.appendWord(b);
        text.appendWord(c);
        text.appendWord(d);
        text.appendWord(e);
        return text.size;
    }

    public int loadGame(int length) throws IllegalArgumentException {
        requireLength(length);
        text.open(length);
        readHeader(text, draft);
        readPeople(text, draft);
        readBridges(text, draft);
        text.size = 0;
        if (text.hasFailed()) {
            return NONE;
        }
        setting.copyFrom(draft);
        position.begin();
        history.clear();
        hasSnapshot = false;
        return setting.people;
    }

    public int errorCode() {
        return text.errorCode;
    }

    public int errorOffset() {
        return text.errorOffset;
    }

    // ---- the game

    public int turn() {
        return position.now;
    }

    public int limitAngle() {
        return position.limit;
    }

    public int tollBox() {
        return position.box;
    }

    public int groundCoins(boolean isEast) {
        return at(position.ground, bankOf(isEast));
    }

    public int personCount() {
        return setting.people;
    }

    public int kingCount() {
        return setting.kingsInAll();
    }

    public int bankCount(boolean isEast) {
        return position.peopleOn(bankOf(isEast));
    }

    // ---- people

    public boolean isKing(int person) throws IndexOutOfBoundsException {
        requirePerson(person);
        return setting.hasKing(person);
    }

    public boolean isEast(int person) throws IndexOutOfBoundsException {
        requirePerson(person);
        return at(position.banks, person) == EAST;
    }

    public int coins(int person) throws IndexOutOfBoundsException {
        requirePerson(person);
        return at(position.purses, person);
    }

    public int pride(int person) throws IndexOutOfBoundsException {
        requirePerson(person);
        return at(position.prides, person);
    }

    public int rags(int person) throws IndexOutOfBoundsException {
        requirePerson(person);
        return at(position.worn, person);
    }

    public int rank(int rags) throws IndexOutOfBoundsException {
        requirePerson(rags);
        return at(setting.ranks, rags);
    }

    public int wearer(int rags) throws IndexOutOfBoundsException {
        requirePerson(rags);
        return position.wearerOf(rags);
    }

    public int crossings(int person) throws IndexOutOfBoundsException {
        requirePerson(person);
        return at(position.crossed, person);
    }

    public int richest() {
        return position.richestPerson();
    }

    // ---- bows and tolls

    public int bowTo(int person, int other) throws IndexOutOfBoundsException, IllegalArgumentException {
        requirePerson(person);
        requirePerson(other);
        if (person == other) {
            throw new IllegalArgumentException("nobody bows to himself");
        }
        return position.angleTo(person, other);
    }

    public int bowToKeeper(int person) throws IndexOutOfBoundsException {
        requirePerson(person);
        return position.keeperAngle(person);
    }

    public boolean isTakenForKing(int person) throws IndexOutOfBoundsException {
        requirePerson(person);
        return position.looksKingly(person);
    }

    public int tollOf(int person) throws IndexOutOfBoundsException {
        requirePerson(person);
        return position.tollNow(person);
    }

    public int wrongGuesses() {
        return position.misjudgedPeople();
    }

    public int stiffest() {
        return position.stiffestPerson();
    }

    public int cheapestRags(int person) throws IndexOutOfBoundsException {
        requirePerson(person);
        return position.cheapestSet(person);
    }

    public double meanBow() {
        return setting.people == 0 ? 0.0 : (double) position.sumOfAngles() / (double) setting.people;
    }

    // ---- royal coins

    public int royalHolder(int king) throws IndexOutOfBoundsException, IllegalArgumentException {
        requireKing(king);
        return at(position.holders, king);
    }

    public boolean isRoyalCoinEast(int king) throws IndexOutOfBoundsException, IllegalArgumentException {
        requireKing(king);
        return position.royalCoinBank(king) == EAST;
    }

    public boolean isCounted(int king) throws IndexOutOfBoundsException, IllegalArgumentException {
        requireKing(king);
        return at(position.counted, king) == 1;
    }

    public int royalCoins(int person) throws IndexOutOfBoundsException {
        requirePerson(person);
        return position.royalCoinsOf(person);
    }

    public int countedRoyalCoins() {
        return position.countedInAll();
    }

    public float countedShare() {
        int kings = setting.kingsInAll();
        return kings == 0 ? 0.0f : (float) position.countedInAll() / (float) kings;
    }

    // ---- queues and bridges

    public int queueLength(boolean isEast) {
        return position.queueOn(bankOf(isEast)).length;
    }

    public int queued(boolean isEast, int place) {
        return position.queueOn(bankOf(isEast)).personAt(place);
    }

    public int offer(int person) throws IndexOutOfBoundsException {
        requirePerson(person);
        return position.offerOf(person);
    }

    public int bridgeCount() {
        return setting.bridges;
    }

    public boolean isOpen(int bridge) throws IndexOutOfBoundsException {
        if (bridge < 0 || bridge >= setting.bridges) {
            throw new IndexOutOfBoundsException("no such bridge");
        }
        return setting.opens(bridge, position.now);
    }

    public int room() {
        return setting.roomIn(position.now);
    }

    public int firstPlaceOffer(int person) throws IndexOutOfBoundsException {
        requirePerson(person);
        return position.queueOn(at(position.banks, person)).offerToLead(person);
    }

    // ---- forecasts and reasons

    public int turnsUntilCrossing(int person) throws IndexOutOfBoundsException {
        requirePerson(person);
        forecast.copyFrom(position);
        int before = at(forecast.crossed, person);
        for (int turns = 0; turns < FORECAST_TURNS && forecast.offerOf(person) != NONE; turns++) {
            forecast.passTurn();
            if (at(forecast.crossed, person) != before) {
                return turns;
            }
        }
        return NONE;
    }

    public int tollBoxAfter(int turns) throws IllegalArgumentException {
        foresee(turns);
        return forecast.box;
    }

    public int limitAngleAfter(int turns) throws IllegalArgumentException {
        foresee(turns);
        return forecast.limit;
    }

    public int crossingObstacle(int person) throws IndexOutOfBoundsException {
        requirePerson(person);
        if (position.now > LAST_TURN) {
            return 1;
        }
        if (at(position.banks, person) != position.departureBank()) {
            return 2;
        }
        if (setting.roomIn(position.now) == 0) {
            return 3;
        }
        int price = position.tollNow(person) + Math.max(0, position.offerOf(person));
        return at(position.purses, person) < price ? 4 : 0;
    }

    public int coinGap() {
        return Math.abs(position.coinsInAll() - setting.coinsInAll());
    }

    // ---- changes

    public int dropCoins(int person, int coins)
            throws IndexOutOfBoundsException, IllegalArgumentException, IllegalStateException {
        allow(Verb.DROP, person, coins);
        return position.drop(person, coins);
    }

    public int pickCoins(int person, int coins)
            throws IndexOutOfBoundsException, IllegalArgumentException, IllegalStateException {
        allow(Verb.PICK, person, coins);
        return position.pick(person, coins);
    }

    public int layRoyalCoin(int person, int king)
            throws IndexOutOfBoundsException, IllegalArgumentException, IllegalStateException {
        allow(Verb.LAY, person, king);
        return position.lay(person, king);
    }

    public int liftRoyalCoin(int person, int king)
            throws IndexOutOfBoundsException, IllegalArgumentException, IllegalStateException {
        allow(Verb.LIFT, person, king);
        return position.lift(person, king);
    }

    public int swapRags(int person, int other)
            throws IndexOutOfBoundsException, IllegalArgumentException, IllegalStateException {
        allow(Verb.SWAP, person, other);
        return position.swap(person, other);
    }

    public int joinQueue(int person, int offer)
            throws IndexOutOfBoundsException, IllegalArgumentException, IllegalStateException {
        allow(Verb.QUEUE, person, offer);
        return position.join(person, offer);
    }

    public int quitQueue(int person) throws IndexOutOfBoundsException, IllegalStateException {
        allow(Verb.QUIT, person, 0);
        return position.quit(person);
    }

    public int setPride(int person, int pride) throws IndexOutOfBoundsException, IllegalArgumentException {
        allow(Verb.PRIDE, person, pride);
        return position.changePride(person, pride);
    }

    public int passTurns(int turns) throws IllegalArgumentException, IllegalStateException {
        allow(Verb.TURN, turns, 0);
        return position.passSeveral(turns);
    }

    public int runScript(int length) throws IllegalArgumentException {
        requireLength(length);
        text.open(length);
        script.read(text);
        text.size = 0;
        if (text.hasFailed()) {
            return NONE;
        }
        history.push(position);
        return script.play(position);
    }

    // ---- output and history

    public int writeQueue(boolean isEast) {
        Queue queue = position.queueOn(bankOf(isEast));
        outputSize = 0;
        for (int place = 0; place < queue.length; place++) {
            if (place > 0) {
                writeByte(' ');
            }
            int person = queue.personAt(place);
            writeNumber(person);
            writeByte(':');
            writeNumber(queue.offerAt(place));
            if (position.looksKingly(person)) {
                writeByte('!');
            }
        }
        return outputSize;
    }

    public int outputByte(int index) throws IndexOutOfBoundsException {
        if (index < 0 || index >= outputSize) {
            throw new IndexOutOfBoundsException("no such byte");
        }
        return at(output, index);
    }

    public int undoableCount() {
        return history.count;
    }

    public int undo() throws IllegalStateException {
        if (history.count == 0) {
            throw new IllegalStateException("nothing to undo");
        }
        history.pop(position);
        return history.count;
    }

    public void saveSnapshot() {
        snapshot.copyFrom(position);
        hasSnapshot = true;
    }

    public int restoreSnapshot() throws IllegalStateException {
        if (!hasSnapshot) {
            throw new IllegalStateException("no snapshot");
        }
        position.copyFrom(snapshot);
        history.clear();
        return position.now;
    }

    // ---- helpers of the calls

    private void requirePerson(int person) {
        if (!setting.hasPerson(person)) {
            throw new IndexOutOfBoundsException("no such person");
        }
    }

    private void requireKing(int king) {
        requirePerson(king);
        if (!setting.hasKing(king)) {
            throw new IllegalArgumentException("not a king");
        }
    }

    private void requireLength(int length) {
        if (length < 0 || length > text.size) {
            throw new IllegalArgumentException("no such length");
        }
    }

    private void foresee(int turns) {
        if (turns < 0 || turns > FORECAST_TURNS) {
            throw new IllegalArgumentException("turns out of range");
        }
        forecast.copyFrom(position);
        forecast.passSeveral(turns);
    }

    /** Refuses a change that is not possible; else keeps the position before it, for undo. */
    private void allow(Verb verb, int first, int second) {
        int fault = position.faultOf(verb, first, second);
        if (fault == NO_SUCH_PERSON) {
            throw new IndexOutOfBoundsException("no such person");
        }
        if (fault == WRONG_ARGUMENT) {
            throw new IllegalArgumentException("argument not allowed");
        }
        if (fault == WRONG_STATE) {
            throw new IllegalStateException("not possible now");
        }
        history.push(position);
    }

    private void writeNumber(int number) {
        if (number >= 10) {
            writeByte('0' + number / 10);
        }
        writeByte('0' + number % 10);
    }

    private void writeByte(int value) {
        if (outputSize < output.length) {
            put(output, outputSize, value);
            outputSize++;
        }
    }

    private static int bankOf(boolean east) {
        return east ? EAST : WEST;
    }

    // ---- rows, whose indices are tested here once for all

    private static int at(int[] row, int index) {
        return index >= 0 && index < row.length ? row[index] : 0;
    }

    private static void put(int[] row, int index, int value) {
        if (index >= 0 && index < row.length) {
            row[index] = value;
        }
    }

    private static void add(int[] row, int index, int more) {
        put(row, index, at(row, index) + more);
    }

    private static void copyRow(int[] from, int[] to) {
        System.arraycopy(from, 0, to, 0, Math.min(from.length, to.length));
    }

    // ---- the grammar of a game

    private static void readHeader(Text text, Setting game) {
        text.takeWord("game");
        int limit = text.takeNumber(0, MAX_ANGLE);
        int step = text.takeNumber(0, 9);
        int kingToll = text.takeNumber(0, 99);
        int beggarToll = text.takeNumber(0, 99);
        text.takeSemicolon();
        game.begin(limit, step, kingToll, beggarToll);
    }

    private static void readPeople(Text text, Setting game) {
        for (int count = 0; count <= MAX_PEOPLE && isAtPerson(text); count++) {
            if (count == MAX_PEOPLE) {
                text.fail(TOO_MANY);
            } else {
                readPerson(text, game);
            }
        }
        if (game.people < MIN_PEOPLE) {
            text.fail(NOT_ALLOWED);
        }
    }

    private static boolean isAtPerson(Text text) {
        return text.isAtWord("king") || text.isAtWord("beggar");
    }

    private static void readPerson(Text text, Setting game) {
        int king = text.takeEither("beggar", "king");
        int bank = text.takeEither("west", "east");
        int coins = text.takeNumber(0, 999);
        int pride = text.takeNumber(0, 40);
        int rank = text.takeNumber(0, 50);
        text.takeSemicolon();
        game.addPerson(king, bank, coins, pride, rank);
    }

    private static void readBridges(Text text, Setting game) {
        for (int count = 0; count <= MAX_BRIDGES && text.isAtWord("bridge"); count++) {
            if (count == MAX_BRIDGES) {
                text.fail(TOO_MANY);
            } else {
                readBridge(text, game);
            }
        }
        if (game.bridges == 0 || !text.isAtEnd()) {
            text.fail(NOT_ALLOWED);
        }
    }

    private static void readBridge(Text text, Setting game) {
        text.takeWord("bridge");
        int period = text.takeNumber(1, 9);
        int phase = text.takeNumber(0, period - 1);
        int width = text.takeNumber(1, 3);
        text.takeSemicolon();
        game.addBridge(period, phase, width);
    }

    /**
     * The input buffer, and the tokens of the text that is being read from it. After the first
     * error nothing more is taken, so that a reader need not ask after every token.
     */
    private static final class Text {
        private static final int END = 0;
        private static final int WORD = 1;
        private static final int NUMBER = 2;
        private static final int SEMICOLON = 3;
        private static final int INVALID = 4;
        /** Above every range of the grammars, so that longer numbers need not be told apart. */
        private static final int TOO_GREAT = 1000;

        private final int[] bytes = new int[BUFFER_SIZE];
        private int size;
        private int end;
        private int kind;
        private int start;
        private int next;
        private int value;
        private int errorCode;
        private int errorOffset = NONE;

        private void appendWord(int word) {
            for (int shift = 24; shift >= 0; shift -= 8) {
                put(bytes, size, (word >>> shift) & 255);
                size++;
            }
        }

        private void open(int length) {
            errorCode = 0;
            errorOffset = NONE;
            end = length;
            next = 0;
            advance();
        }

        private boolean hasFailed() {
            return errorCode != 0;
        }

        private void fail(int code) {
            if (errorCode == 0) {
                errorCode = code;
                errorOffset = start;
            }
        }

        private boolean isAtEnd() {
            return errorCode == 0 && kind == END;
        }

        private boolean isAtWord(String word) {
            if (errorCode != 0 || kind != WORD || next - start != word.length()) {
                return false;
            }
            for (int i = 0; i < word.length(); i++) {
                if (at(bytes, start + i) != word.charAt(i)) {
                    return false;
                }
            }
            return true;
        }

        private void takeWord(String word) {
            if (isAtWord(word)) {
                advance();
            } else {
                fail(NOT_ALLOWED);
            }
        }

        /** Takes one of two words and answers 0 for the first and 1 for the second. */
        private int takeEither(String zero, String one) {
            boolean isOne = isAtWord(one);
            if (isOne || isAtWord(zero)) {
                advance();
            } else {
                fail(NOT_ALLOWED);
            }
            return isOne ? 1 : 0;
        }

        private void takeSemicolon() {
            if (kind == SEMICOLON) {
                advance();
            } else {
                fail(NOT_ALLOWED);
            }
        }

        private int takeNumber(int low, int high) {
            int number = value;
            if (kind != NUMBER) {
                fail(NOT_ALLOWED);
            } else if (number < low || number > high) {
                fail(OUT_OF_RANGE);
            } else {
                advance();
            }
            return number;
        }

        private void advance() {
            if (errorCode != 0) {
                return;
            }
            start = next;
            while (start < end && isBlank(at(bytes, start))) {
                start++;
            }
            next = start;
            if (start >= end) {
                kind = END;
            } else if (isLetter(at(bytes, start))) {
                scanWord();
            } else if (isDigit(at(bytes, start))) {
                scanNumber();
            } else {
                kind = at(bytes, start) == ';' ? SEMICOLON : INVALID;
                next++;
            }
        }

        private void scanWord() {
            kind = WORD;
            while (next < end && isLetter(at(bytes, next))) {
                next++;
            }
        }

        private void scanNumber() {
            kind = NUMBER;
            value = 0;
            while (next < end && isDigit(at(bytes, next))) {
                value = Math.min(TOO_GREAT, value * 10 + at(bytes, next) - '0');
                next++;
            }
        }

        private static boolean isBlank(int code) {
            return code == ' ' || code == '\n';
        }

        private static boolean isLetter(int code) {
            return code >= 'a' && code <= 'z';
        }

        private static boolean isDigit(int code) {
            return code >= '0' && code <= '9';
        }
    }

    /** The commands of a script: the word, how many people come first, and the range of the number. */
    private enum Verb {
        DROP("drop", 1, 2, 1, 999),
        PICK("pick", 1, 2, 1, 999),
        LAY("lay", 2, 2, 0, 0),
        LIFT("lift", 2, 2, 0, 0),
        SWAP("swap", 2, 2, 0, 0),
        QUEUE("queue", 1, 2, 0, MAX_OFFER),
        QUIT("quit", 1, 1, 0, 0),
        PRIDE("pride", 1, 2, 0, 40),
        TURN("turn", 0, 1, 1, 50);

        private static final Verb[] ALL = values();

        private final String word;
        private final int people;
        private final int operands;
        private final int low;
        private final int high;

        Verb(String word, int people, int operands, int low, int high) {
            this.word = word;
            this.people = people;
            this.operands = operands;
            this.low = low;
            this.high = high;
        }

        /** The verb whose word the text is at, or null. */
        private static Verb spelledIn(Text text) {
            for (int i = 0; i < ALL.length; i++) {
                Verb verb = ALL[i];
                if (verb != null && text.isAtWord(verb.word)) {
                    return verb;
                }
            }
            return null;
        }

        private int lowest(int operand) {
            return operand < people ? 0 : low;
        }

        private int highest(int operand) {
            return operand < people ? MAX_PEOPLE - 1 : high;
        }

        private boolean allows(int number) {
            return number >= low && number <= high;
        }
    }

    /** The commands of the script that was read last. */
    private static final class Script {
        private final Verb[] verbs = new Verb[MAX_COMMANDS];
        private final int[] firsts = new int[MAX_COMMANDS];
        private final int[] seconds = new int[MAX_COMMANDS];
        private int count;

        private void read(Text text) {
            count = 0;
            for (int i = 0; i <= MAX_COMMANDS && !text.hasFailed() && !text.isAtEnd(); i++) {
                readCommand(text);
            }
        }

        private void readCommand(Text text) {
            Verb verb = Verb.spelledIn(text);
            if (verb == null) {
                text.fail(NOT_ALLOWED);
            } else if (count < 0 || count >= verbs.length) {
                text.fail(TOO_MANY);
            } else {
                text.advance();
                verbs[count] = verb;
                put(firsts, count, text.takeNumber(verb.lowest(0), verb.highest(0)));
                put(seconds, count, verb.operands > 1 ? text.takeNumber(verb.lowest(1), verb.highest(1)) : 0);
                text.takeSemicolon();
                count++;
            }
        }

        /** Executes the commands up to the first that is refused, and answers how many were executed. */
        private int play(Position position) {
            for (int i = 0; i < count && i < verbs.length; i++) {
                Verb verb = verbs[i];
                if (verb == null || position.faultOf(verb, at(firsts, i), at(seconds, i)) != NO_FAULT) {
                    return i;
                }
                position.carryOut(verb, at(firsts, i), at(seconds, i));
            }
            return count;
        }
    }

    /** What the text of a game tells; none of it changes while the game is played. */
    private static final class Setting {
        private int limit;
        private int step;
        private int kingToll;
        private int beggarToll;
        private int people;
        private int bridges;
        private final int[] kings = new int[MAX_PEOPLE];
        private final int[] banks = new int[MAX_PEOPLE];
        private final int[] purses = new int[MAX_PEOPLE];
        private final int[] prides = new int[MAX_PEOPLE];
        private final int[] ranks = new int[MAX_PEOPLE];
        private final int[] periods = new int[MAX_BRIDGES];
        private final int[] phases = new int[MAX_BRIDGES];
        private final int[] widths = new int[MAX_BRIDGES];

        private void begin(int newLimit, int newStep, int newKingToll, int newBeggarToll) {
            limit = newLimit;
            step = newStep;
            kingToll = newKingToll;
            beggarToll = newBeggarToll;
            people = 0;
            bridges = 0;
        }

        private void addPerson(int king, int bank, int purse, int pride, int rank) {
            put(kings, people, king);
            put(banks, people, bank);
            put(purses, people, purse);
            put(prides, people, pride);
            put(ranks, people, rank);
            people++;
        }

        private void addBridge(int period, int phase, int width) {
            put(periods, bridges, period);
            put(phases, bridges, phase);
            put(widths, bridges, width);
            bridges++;
        }

        private void copyFrom(Setting other) {
            limit = other.limit;
            step = other.step;
            kingToll = other.kingToll;
            beggarToll = other.beggarToll;
            people = other.people;
            bridges = other.bridges;
            copyRow(other.kings, kings);
            copyRow(other.banks, banks);
            copyRow(other.purses, purses);
            copyRow(other.prides, prides);
            copyRow(other.ranks, ranks);
            copyRow(other.periods, periods);
            copyRow(other.phases, phases);
            copyRow(other.widths, widths);
        }

        private boolean hasPerson(int person) {
            return person >= 0 && person < people;
        }

        private boolean hasKing(int person) {
            return hasPerson(person) && at(kings, person) == 1;
        }

        private int kingsInAll() {
            int sum = 0;
            for (int person = 0; person < people; person++) {
                sum += at(kings, person);
            }
            return sum;
        }

        private int coinsInAll() {
            int sum = 0;
            for (int person = 0; person < people; person++) {
                sum += at(purses, person);
            }
            return sum;
        }

        private int tollFor(boolean asKing) {
            return asKing ? kingToll : beggarToll;
        }

        private boolean opens(int bridge, int turn) {
            int period = at(periods, bridge);
            return period > 0 && turn % period == at(phases, bridge);
        }

        private int roomIn(int turn) {
            int sum = 0;
            for (int bridge = 0; bridge < bridges; bridge++) {
                if (opens(bridge, turn)) {
                    sum += at(widths, bridge);
                }
            }
            return sum;
        }
    }

    /** The people who queue on one bank, the first of the queue first. */
    private static final class Queue {
        private final int[] people = new int[MAX_PEOPLE];
        private final int[] offers = new int[MAX_PEOPLE];
        private int length;

        private void copyFrom(Queue other) {
            length = other.length;
            copyRow(other.people, people);
            copyRow(other.offers, offers);
        }

        private int personAt(int place) {
            return place >= 0 && place < length ? at(people, place) : NONE;
        }

        private int offerAt(int place) {
            return place >= 0 && place < length ? at(offers, place) : NONE;
        }

        private int placeOf(int person) {
            for (int place = 0; place < length; place++) {
                if (at(people, place) == person) {
                    return place;
                }
            }
            return NONE;
        }

        private int insert(int person, int offer) {
            int place = length;
            while (place > 0 && at(offers, place - 1) < offer) {
                put(people, place, at(people, place - 1));
                put(offers, place, at(offers, place - 1));
                place--;
            }
            put(people, place, person);
            put(offers, place, offer);
            length++;
            return place;
        }

        private void removeAt(int place) {
            if (place < 0 || place >= length) {
                return;
            }
            length--;
            for (int i = place; i < length; i++) {
                put(people, i, at(people, i + 1));
                put(offers, i, at(offers, i + 1));
            }
        }

        /** The smallest offer that beats everybody else's, or NONE. */
        private int offerToLead(int person) {
            int leader = personAt(0) == person ? 1 : 0;
            int needed = offerAt(leader) + 1;
            return needed > MAX_OFFER ? NONE : needed;
        }
    }

    /** What changes while a game is played. */
    private static final class Position {
        private final Setting setting;
        private int now;
        private int limit;
        private int box;
        private final int[] ground = new int[2];
        private final int[] banks = new int[MAX_PEOPLE];
        private final int[] purses = new int[MAX_PEOPLE];
        private final int[] prides = new int[MAX_PEOPLE];
        private final int[] worn = new int[MAX_PEOPLE];
        private final int[] crossed = new int[MAX_PEOPLE];
        private final int[] holders = new int[MAX_PEOPLE];
        private final int[] layingBanks = new int[MAX_PEOPLE];
        private final int[] counted = new int[MAX_PEOPLE];
        private final Queue west = new Queue();
        private final Queue east = new Queue();

        private Position(Setting setting) {
            this.setting = setting;
        }

        private void begin() {
            now = 0;
            limit = setting.limit;
            box = 0;
            put(ground, WEST, 0);
            put(ground, EAST, 0);
            west.length = 0;
            east.length = 0;
            copyRow(setting.banks, banks);
            copyRow(setting.purses, purses);
            copyRow(setting.prides, prides);
            copyRow(setting.banks, layingBanks);
            for (int person = 0; person < MAX_PEOPLE; person++) {
                put(worn, person, person);
                put(crossed, person, 0);
                put(holders, person, setting.hasKing(person) ? person : NONE);
                put(counted, person, 0);
            }
        }

        private void copyFrom(Position other) {
            now = other.now;
            limit = other.limit;
            box = other.box;
            copyRow(other.ground, ground);
            copyRow(other.banks, banks);
            copyRow(other.purses, purses);
            copyRow(other.prides, prides);
            copyRow(other.worn, worn);
            copyRow(other.crossed, crossed);
            copyRow(other.holders, holders);
            copyRow(other.layingBanks, layingBanks);
            copyRow(other.counted, counted);
            west.copyFrom(other.west);
            east.copyFrom(other.east);
        }

        // ---- people and coins

        private int peopleOn(int bank) {
            int sum = 0;
            for (int person = 0; person < setting.people; person++) {
                if (at(banks, person) == bank) {
                    sum++;
                }
            }
            return sum;
        }

        private int wearerOf(int set) {
            for (int person = 0; person < setting.people; person++) {
                if (at(worn, person) == set) {
                    return person;
                }
            }
            return NONE;
        }

        private int richestPerson() {
            int best = 0;
            for (int person = 1; person < setting.people; person++) {
                if (at(purses, person) > at(purses, best)) {
                    best = person;
                }
            }
            return best;
        }

        private int coinsInAll() {
            int sum = box + at(ground, WEST) + at(ground, EAST);
            for (int person = 0; person < setting.people; person++) {
                sum += at(purses, person);
            }
            return sum;
        }

        private int royalCoinBank(int king) {
            int holder = at(holders, king);
            return holder == NONE ? at(layingBanks, king) : at(banks, holder);
        }

        private int royalCoinsOf(int person) {
            int sum = 0;
            for (int king = 0; king < setting.people; king++) {
                if (at(holders, king) == person) {
                    sum++;
                }
            }
            return sum;
        }

        private int countedInAll() {
            int sum = 0;
            for (int king = 0; king < setting.people; king++) {
                sum += at(counted, king);
            }
            return sum;
        }

        // ---- bows and tolls

        private int angleTo(int person, int other) {
            int otherRank = at(setting.ranks, at(worn, other));
            int ownRank = at(setting.ranks, at(worn, person));
            return angleOf(45 + otherRank - ownRank - at(prides, person), at(setting.kings, person));
        }

        private int keeperAngle(int person) {
            return keeperAngleIn(person, at(worn, person));
        }

        private int keeperAngleIn(int person, int set) {
            return angleOf(80 - at(setting.ranks, set) - at(prides, person), at(setting.kings, person));
        }

        private static int angleOf(int raw, int king) {
            int angle = raw < 0 ? 0 : raw > MAX_ANGLE ? MAX_ANGLE : raw;
            return king == 1 ? angle / 2 : angle;
        }

        private boolean looksKingly(int person) {
            return keeperAngleIn(person, at(worn, person)) < limit;
        }

        private int tollNow(int person) {
            return tollIn(person, at(worn, person));
        }

        private int tollIn(int person, int set) {
            return setting.tollFor(keeperAngleIn(person, set) < limit);
        }

        private int misjudgedPeople() {
            int sum = 0;
            for (int person = 0; person < setting.people; person++) {
                if (looksKingly(person) != setting.hasKing(person)) {
                    sum++;
                }
            }
            return sum;
        }

        private int stiffestPerson() {
            int best = 0;
            for (int person = 1; person < setting.people; person++) {
                if (keeperAngle(person) < keeperAngle(best)) {
                    best = person;
                }
            }
            return best;
        }

        private int cheapestSet(int person) {
            int best = 0;
            for (int set = 1; set < setting.people; set++) {
                if (tollIn(person, set) < tollIn(person, best)) {
                    best = set;
                }
            }
            return best;
        }

        private int sumOfAngles() {
            int sum = 0;
            for (int person = 0; person < setting.people; person++) {
                sum += keeperAngle(person);
            }
            return sum;
        }

        // ---- queues and turns

        private Queue queueOn(int bank) {
            return bank == EAST ? east : west;
        }

        private int offerOf(int person) {
            Queue queue = queueOn(at(banks, person));
            return queue.offerAt(queue.placeOf(person));
        }

        private int departureBank() {
            return now % 2 == 0 ? WEST : EAST;
        }

        private int passSeveral(int turns) {
            int sum = 0;
            for (int i = 0; i < turns; i++) {
                sum += passTurn();
            }
            return sum;
        }

        /** Passes the current turn, if there is one left, and answers how many people crossed in it. */
        private int passTurn() {
            if (now > LAST_TURN) {
                return 0;
            }
            Queue queue = queueOn(departureBank());
            int sum = 0;
            for (int bridge = 0; bridge < setting.bridges; bridge++) {
                int room = setting.opens(bridge, now) ? at(setting.widths, bridge) : 0;
                for (int tries = 0; tries < MAX_PEOPLE && room > 0 && queue.length > 0; tries++) {
                    int crossing = letFirstTry(queue);
                    room -= crossing;
                    sum += crossing;
                }
            }
            now++;
            return sum;
        }

        /** Lets the first of the queue try to cross, and answers 1 if that person crossed and 0 if not. */
        private int letFirstTry(Queue queue) {
            int person = queue.personAt(0);
            boolean asKing = keeperAngleIn(person, at(worn, person)) < limit;
            int price = queue.offerAt(0) + setting.tollFor(asKing);
            queue.removeAt(0);
            if (at(purses, person) < price) {
                return 0;
            }
            add(purses, person, -price);
            box += price;
            put(banks, person, departureBank() == WEST ? EAST : WEST);
            add(crossed, person, 1);
            countRoyalCoinsOf(person);
            learn(asKing, setting.hasKing(person));
            return 1;
        }

        private void countRoyalCoinsOf(int person) {
            for (int king = 0; king < setting.people; king++) {
                if (at(holders, king) == person) {
                    put(counted, king, 1);
                }
            }
        }

        private void learn(boolean asKing, boolean king) {
            if (asKing && !king) {
                limit = Math.max(0, limit - setting.step);
            } else if (!asKing && king) {
                limit = Math.min(MAX_ANGLE, limit + setting.step);
            }
        }

        // ---- changes

        /** Tells why a change is refused, in the order in which its exceptions apply. */
        private int faultOf(Verb verb, int first, int second) {
            if (verb.people > 0 && !setting.hasPerson(first) || verb.people > 1 && !setting.hasPerson(second)) {
                return NO_SUCH_PERSON;
            }
            if (!isSound(verb, first, second)) {
                return WRONG_ARGUMENT;
            }
            return isPossible(verb, first, second) ? NO_FAULT : WRONG_STATE;
        }

        private boolean isSound(Verb verb, int first, int second) {
            switch (verb) {
                case LAY:
                case LIFT:
                    return setting.hasKing(second);
                case SWAP:
                    return first != second;
                case QUIT:
                    return true;
                case TURN:
                    return verb.allows(first);
                default:
                    return verb.allows(second);
            }
        }

        private boolean isPossible(Verb verb, int first, int second) {
            switch (verb) {
                case DROP:
                    return at(purses, first) >= second;
                case PICK:
                    return at(ground, at(banks, first)) >= second;
                case LAY:
                    return at(holders, second) == first;
                case LIFT:
                    return at(holders, second) == NONE && at(layingBanks, second) == at(banks, first);
                case SWAP:
                    return at(banks, first) == at(banks, second);
                case QUEUE:
                    return offerOf(first) == NONE;
                case QUIT:
                    return offerOf(first) != NONE;
                case TURN:
                    return now + first <= LAST_TURN + 1;
                default:
                    return true;
            }
        }

        /** Makes a change that faultOf does not refuse. */
        private void carryOut(Verb verb, int first, int second) {
            switch (verb) {
                case DROP:
                    drop(first, second);
                    break;
                case PICK:
                    pick(first, second);
                    break;
                case LAY:
                    lay(first, second);
                    break;
                case LIFT:
                    lift(first, second);
                    break;
                case SWAP:
                    swap(first, second);
                    break;
                case QUEUE:
                    join(first, second);
                    break;
                case QUIT:
                    quit(first);
                    break;
                case PRIDE:
                    changePride(first, second);
                    break;
                default:
                    passSeveral(first);
                    break;
            }
        }

        private int drop(int person, int coins) {
            int bank = at(banks, person);
            add(purses, person, -coins);
            add(ground, bank, coins);
            return at(ground, bank);
        }

        private int pick(int person, int coins) {
            add(ground, at(banks, person), -coins);
            add(purses, person, coins);
            return at(purses, person);
        }

        private int lay(int person, int king) {
            put(holders, king, NONE);
            put(layingBanks, king, at(banks, person));
            return royalCoinsOf(person);
        }

        private int lift(int person, int king) {
            put(holders, king, person);
            return royalCoinsOf(person);
        }

        private int swap(int person, int other) {
            int set = at(worn, person);
            put(worn, person, at(worn, other));
            put(worn, other, set);
            return at(worn, person);
        }

        private int join(int person, int offer) {
            return queueOn(at(banks, person)).insert(person, offer);
        }

        private int quit(int person) {
            Queue queue = queueOn(at(banks, person));
            int place = queue.placeOf(person);
            int offer = queue.offerAt(place);
            queue.removeAt(place);
            return offer;
        }

        private int changePride(int person, int pride) {
            int before = at(prides, person);
            put(prides, person, pride);
            return before;
        }
    }

    /** The positions before the latest changes, in a ring. */
    private static final class History {
        private final Position[] ring = new Position[HISTORY_SIZE];
        private int next;
        private int count;

        private History(Setting setting) {
            for (int i = 0; i < ring.length; i++) {
                ring[i] = new Position(setting);
            }
        }

        private void clear() {
            count = 0;
        }

        private void push(Position position) {
            if (next < 0 || next >= ring.length) {
                return;
            }
            Position slot = ring[next];
            if (slot != null) {
                slot.copyFrom(position);
                next = next + 1 < HISTORY_SIZE ? next + 1 : 0;
                count = Math.min(HISTORY_SIZE, count + 1);
            }
        }

        private void pop(Position position) {
            int latest = next > 0 ? next - 1 : HISTORY_SIZE - 1;
            if (latest < 0 || latest >= ring.length) {
                return;
            }
            Position slot = ring[latest];
            if (slot != null) {
                position.copyFrom(slot);
                next = latest;
                count--;
            }
        }
    }
}
