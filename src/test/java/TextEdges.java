import java.nio.charset.StandardCharsets;

/** The sentences of the terms about texts, each at both sides of the boundaries that it names. */
final class TextEdges {
    private static final String POOR = "beggar west 0 0 0;";
    private static final String HEAD = "game 1 2 3 4;";
    private static final String BRIDGE = "bridge 1 0 1;";
    private static final String SMALL = HEAD + POOR.repeat(3) + BRIDGE;
    private static final String[] VERBS = {"drop", "pick", "lay", "lift", "swap", "queue", "quit", "pride", "turn"};

    private TextEdges() {
    }

    static void run() {
        theBufferHolds500();
        textsAreTokens();
        wordsAreLettersAToZ();
        numbersAreDigits();
        semicolonsAreTokens();
        blanksSeparate();
        otherBytesAreInvalid();
        braces();
        numbersOfAGame();
        numbersOfAScript();
        twentyCommands();
        parsedBeforeExecuted();
        theFirstErrorStops();
        offsetsOfErrors();
        theSmallestCode();
        codeOne();
        codeTwo();
        codeThree();
    }

    /** Reads the text as a game on a new object, and expects this error; code 0 is none. */
    static void game(String text, int code, int offset) {
        BeggarKings x = new BeggarKings();
        int people = Check.load(x, text);
        Check.same("loadGame '" + text + "' answered -1", people == -1, code != 0);
        Check.same("errorCode of '" + text + "'", x.errorCode(), code);
        Check.same("errorOffset of '" + text + "'", x.errorOffset(), offset);
    }

    /** Reads the text as a script on a new object, and expects this error; code 0 is none. */
    static void script(String text, int code, int offset) {
        BeggarKings x = new BeggarKings();
        int commands = Check.run(x, text);
        Check.same("runScript '" + text + "' answered -1", commands == -1, code != 0);
        Check.same("errorCode of '" + text + "'", x.errorCode(), code);
        Check.same("errorOffset of '" + text + "'", x.errorOffset(), offset);
    }

    private static void theBufferHolds500() {
        Document.terms("Texts are read from an input buffer of at most 500 bytes.");
        BeggarKings x = new BeggarKings();
        String text = "turn" + " ".repeat(494) + "7;";
        Check.same("the length", text.length(), 500);
        Check.type(x, text);
        Check.same("appendText to 500 bytes", x.appendText(0, 0, 0, 0, 0), -1);
        Check.badArgument("runScript of 501 bytes", () -> x.runScript(501));
        Check.same("runScript of 500 bytes", x.runScript(500), 1);
        Check.same("turn", x.turn(), 7);
        script(text.substring(0, 499) + "!", 1, 499);
        script(text.substring(0, 499) + " ", 1, 500);
        game(SMALL + " ".repeat(500 - SMALL.length()), 0, -1);
        game(SMALL + " ".repeat(499 - SMALL.length()) + ";", 1, 499);
        game(SMALL + " ".repeat(500 - SMALL.length() - BRIDGE.length()) + BRIDGE, 0, -1);
    }

    private static void textsAreTokens() {
        Document.terms("A text consists of tokens.");
        script("", 0, -1);
        script(" ", 0, -1);
        script("\n \n", 0, -1);
        game("", 1, 0);
        game("  \n", 1, 3);
        script("quit0;turn1;turn2;", 0, -1);
    }

    private static void wordsAreLettersAToZ() {
        Document.terms("A word is a maximal run of the letters a to z.");
        script("turn 1;", 0, -1);
        script("tur n 1;", 1, 0);
        script("turnx 1;", 1, 0);
        script("turna 1;", 1, 0);
        script("turnz 1;", 1, 0);
        script("aturn 1;", 1, 0);
        script("turnturn 1;", 1, 0);
        // the bytes beside a and z end a word
        script("turn` 1;", 1, 4);
        script("turn{ 1;", 1, 4);
        script("turnA 1;", 1, 4);
        script("Turn 1;", 1, 0);
        script("tuRn 1;", 1, 0);
        script("TURN 1;", 1, 0);
        for (String verb : VERBS) {
            script(verb.substring(0, verb.length() - 1), 1, 0);
            script(verb, 1, verb.length());
            script(verb + "s", 1, 0);
        }
        game(SMALL.replace("beggar", "begga"), 1, 13);
        game(SMALL.replace("beggar", "beggars"), 1, 13);
        game(SMALL.replace("west", "wes"), 1, 20);
        game(SMALL.replace("west", "westt"), 1, 20);
        game(SMALL.replace("bridge", "bridg"), 1, 67);
        game(SMALL.replace("game", "agame"), 1, 0);
    }

    private static void numbersAreDigits() {
        Document.terms("A number is a maximal run of decimal digits of any length.");
        script("turn /;", 1, 5);
        script("turn :;", 1, 5);
        script("turn 1/;", 1, 6);
        script("turn 1:;", 1, 6);
        script("turn 1 2;", 1, 7);
        for (int zeros = 0; zeros <= 493; zeros++) {
            BeggarKings x = new BeggarKings();
            Check.same("runScript with " + zeros + " zeros", Check.run(x, "turn " + "0".repeat(zeros) + "7;"), 1);
            Check.same("turn with " + zeros + " zeros", x.turn(), 7);
        }
        for (int digits = 3; digits <= 494; digits++) {
            script("turn " + "9".repeat(digits) + ";", 2, 5);
            script("turn 1" + "0".repeat(digits - 1) + ";", 2, 5);
        }
        // all that is 1 or 0 in 8, 16, 32 or 64 bits
        String[] wraps = {"257", "65537", "4294967297", "2147483649", "18446744073709551617", "9223372036854775809",
            "340282366920938463463374607431768211457", "4294967296", "18446744073709551616", "10000000001"};
        for (String wrap : wraps) {
            script("turn " + wrap + ";", 2, 5);
            script("quit " + wrap + ";", 2, 5);
            game("game " + wrap + " 1 1 1;" + POOR.repeat(3) + BRIDGE, 2, 5);
        }
        script("turn " + "0".repeat(490) + "50;", 0, -1);
        script("turn " + "0".repeat(490) + "51;", 2, 5);
    }

    private static void semicolonsAreTokens() {
        Document.terms("The character ; is a token.");
        script("turn 1;", 0, -1);
        script("turn 1 ;", 0, -1);
        script("turn 1\n;turn 1", 1, 14);
        script("turn 1;;", 1, 7);
        script(";turn 1;", 1, 0);
        script("turn;1;", 1, 4);
        script("tu;rn 1;", 1, 0);
        game(SMALL + ";", 1, SMALL.length());
    }

    private static void blanksSeparate() {
        Document.terms("Spaces (byte 32) and line feeds (byte 10) separate tokens and have no other meaning.");
        for (String blank : new String[] {" ", "\n", "  ", "\n\n", " \n \n "}) {
            script("turn" + blank + "7;", 0, -1);
            script(blank + "turn" + blank + "7" + blank + ";" + blank, 0, -1);
            script("tu" + blank + "rn 7;", 1, 0);
            script("turn 5" + blank + "0;", 1, 6 + blank.length());
            game(SMALL.replace(" ", blank).replace(";", blank + ";" + blank), 0, -1);
        }
        game("game1 2 3 4;" + POOR.repeat(3).replace("west ", "west") + "bridge1 0 1;", 0, -1);
        game("game 1 2 3 4;beggarwest 0 0 0;", 1, 13);
    }

    private static void otherBytesAreInvalid() {
        Document.terms("Every other byte is an invalid token.");
        for (int code = 0; code <= 255; code++) {
            boolean blank = code == 32 || code == 10;
            boolean digit = code >= '0' && code <= '9';
            boolean letter = code >= 'a' && code <= 'z';
            byte[] text = "turn 1 7;".getBytes(StandardCharsets.ISO_8859_1);
            text[6] = (byte) code;
            BeggarKings x = new BeggarKings();
            x.runScript(Check.type(x, text));
            // a blank leaves the number 7 for the place of the semicolon, a digit makes a greater number
            Check.same("errorCode with the byte " + code, x.errorCode(), digit ? 2 : 1);
            Check.same("errorOffset with the byte " + code, x.errorOffset(), digit ? 5 : blank ? 7 : code == ';' ? 7 : 6);
            text = "turn 7;".getBytes(StandardCharsets.ISO_8859_1);
            text[4] = (byte) code;
            BeggarKings y = new BeggarKings();
            y.runScript(Check.type(y, text));
            boolean sound = blank || digit && code <= '4';
            Check.same("errorCode with the byte " + code + " for the space", y.errorCode(), sound ? 0 : digit ? 2 : 1);
            Check.same("errorOffset with the byte " + code + " for the space", y.errorOffset(), sound ? -1 : letter ? 0 : 4);
        }
    }

    private static void braces() {
        Document.terms("The grammar of a game, where quotes enclose literal tokens and braces enclose what may occur any number of times (also not at all):");
        game(HEAD + POOR.repeat(2) + BRIDGE, 1, 49);
        game(HEAD + POOR.repeat(3) + BRIDGE, 0, -1);
        game(HEAD + POOR.repeat(4) + BRIDGE.repeat(2), 0, -1);
        game(HEAD + POOR.repeat(3), 1, 67);
        game(HEAD, 1, 13);
        game(HEAD + BRIDGE, 1, 13);
        Document.terms("The grammar of a script:");
        script("", 0, -1);
        script("turn 1;", 0, -1);
        script("turn 1;quit 0;turn 2;", 0, -1);
        script("turn 1 quit 0;", 1, 7);
    }

    /** The text around a number, and the greatest and the smallest number that may stand there. */
    private static void range(boolean isGame, String before, String after, int low, int high) {
        for (long number : new long[] {low - 1, low, low + 1, high - 1, high, high + 1, high + 10L, high * 10L + 10, 4294967296L + low}) {
            if (number >= 0) {
                boolean sound = number >= low && number <= high;
                String text = before + number + after;
                if (isGame) {
                    game(text, sound ? 0 : 2, sound ? -1 : before.length());
                } else {
                    script(text, sound ? 0 : 2, sound ? -1 : before.length());
                }
            }
        }
    }

    private static void numbersOfAGame() {
        Document.terms("The limit is 0 to 90, the step 0 to 9, the king toll and the beggar toll 0 to 99, coins 0 to 999, pride 0 to 40, "
                + "the rank of the person's first rags 0 to 50, the period 1 to 9, the phase 0 to the period minus 1, and the width 1 to 3.");
        String rest = ";" + POOR.repeat(3) + BRIDGE;
        range(true, "game ", " 2 3 4" + rest, 0, 90);
        range(true, "game 1 ", " 3 4" + rest, 0, 9);
        range(true, "game 1 2 ", " 4" + rest, 0, 99);
        range(true, "game 1 2 3 ", rest, 0, 99);
        for (int person = 0; person < 4; person++) {
            for (String kind : new String[] {"king west ", "beggar east "}) {
                String before = HEAD + POOR.repeat(person) + kind;
                range(true, before, " 2 3" + rest, 0, 999);
                range(true, before + "1 ", " 3" + rest, 0, 40);
                range(true, before + "1 2 ", rest, 0, 50);
            }
        }
        for (int bridge = 0; bridge < 4; bridge++) {
            String before = HEAD + POOR.repeat(3) + BRIDGE.repeat(bridge) + "bridge ";
            range(true, before, " 0 1;", 1, 9);
            for (int period = 1; period <= 9; period++) {
                range(true, before + period + " ", " 1;", 0, period - 1);
            }
            range(true, before + "9 8 ", ";", 1, 3);
        }
    }

    private static void numbersOfAScript() {
        Document.terms("All of these are numbers: person and king 0 to 9; coins 1 to 999; offer 0 to 99; pride 0 to 40; turns 1 to 50.");
        for (String before : new String[] {"", "turn 1;", "turn 1;".repeat(19)}) {
            for (String verb : new String[] {"drop", "pick", "lay", "lift", "swap", "queue", "pride"}) {
                range(false, before + verb + " ", " 1;", 0, 9);
            }
            range(false, before + "quit ", ";", 0, 9);
            for (String verb : new String[] {"lay", "lift", "swap"}) {
                range(false, before + verb + " 0 ", ";", 0, 9);
            }
            range(false, before + "drop 0 ", ";", 1, 999);
            range(false, before + "pick 0 ", ";", 1, 999);
            range(false, before + "queue 0 ", ";", 0, 99);
            range(false, before + "pride 0 ", ";", 0, 40);
            range(false, before + "turn ", ";", 1, 50);
        }
    }

    private static void twentyCommands() {
        Document.terms("A script has at most 20 commands.");
        for (int commands = 0; commands <= 22; commands++) {
            BeggarKings x = new BeggarKings();
            boolean sound = commands <= 20;
            Check.same("runScript of " + commands, Check.run(x, "turn 1;".repeat(commands)), sound ? commands : -1);
            Check.same("turn after " + commands, x.turn(), sound ? commands : 0);
            Check.same("errorCode after " + commands, x.errorCode(), sound ? 0 : 3);
            Check.same("errorOffset after " + commands, x.errorOffset(), sound ? -1 : 140);
        }
    }

    private static void parsedBeforeExecuted() {
        Document.terms("It is parsed completely before its first command is executed.");
        for (String last : new String[] {"turn 51;", "turn 0;", "turn", "turn 1", ";", "!", "drop 0 1 1;"}) {
            BeggarKings x = new BeggarKings();
            Check.same("runScript", Check.run(x, "turn 1;drop 0 5;pride 0 3;" + last), -1);
            Check.same("turn", x.turn(), 0);
            Check.same("coins", x.coins(0), 40);
            Check.same("pride", x.pride(0), 10);
        }
        // a command that is refused before the fault does not hide it
        script("drop 9 9;turn 51;", 2, 14);
    }

    private static void theFirstErrorStops() {
        Document.terms("Parsing stops at the first token that causes an error.");
        script("turn 0;turn!", 2, 5);
        script("turn !;turn 0;", 1, 5);
        script("turn 51;turn 52;", 2, 5);
        script("quit 10;" + "turn 1;".repeat(21), 2, 5);
        script("turn 1;".repeat(20) + "turn 51;", 3, 140);
        game("game 91 10 100 100;", 2, 5);
        game("game 90 10 100 100;", 2, 8);
        game("game 90 9 100 100;", 2, 10);
        game(HEAD + "king west 1000 41 51;", 2, 23);
        game(HEAD + POOR.repeat(3) + "bridge 10 10 4;", 2, 74);
        game(HEAD + POOR.repeat(3) + "bridge 0 0 0;", 2, 74);
        game(HEAD + POOR.repeat(11) + BRIDGE.repeat(5), 3, HEAD.length() + 10 * POOR.length());
        game(HEAD + POOR.repeat(2) + BRIDGE.repeat(5), 1, HEAD.length() + 2 * POOR.length());
    }

    private static void offsetsOfErrors() {
        Document.terms("The error offset is the offset of the first byte of this token, or the length of the text if the text ends too early.");
        script(" \n 12345;", 1, 3);
        script("turn   12345;", 2, 7);
        script("turn \n\n 12345", 2, 8);
        script("turn", 1, 4);
        script("turn   ", 1, 7);
        script("turn 1", 1, 6);
        script("turn 1 \n", 1, 8);
        endsEarly("turn 1;drop 0 12;lay 3 3;quit 2;", false);
        endsEarly("game 12 3 45 6;king west 123 4 50;beggar east 7 8 9;king east 1 23 4;bridge 9 8 3;", true);
        // what the buffer holds behind the length does not count
        BeggarKings x = new BeggarKings();
        Check.type(x, "turn 12;");
        Check.same("runScript of a part", x.runScript(7), -1);
        Check.same("errorOffset of a part", x.errorOffset(), 7);
        Check.type(x, "turn 51;");
        Check.same("runScript of a smaller number", x.runScript(6), -1);
        Check.same("errorCode of a smaller number", x.errorCode(), 1);
        Check.same("errorOffset of a smaller number", x.errorOffset(), 6);
        Check.type(x, "turn 1;x");
        Check.same("runScript without the fault", x.runScript(7), 1);
    }

    /** Every beginning of a sound text ends too early, but for those of a script that end behind a semicolon. */
    private static void endsEarly(String text, boolean isGame) {
        for (int length = 0; length < text.length(); length++) {
            int start = length;
            while (start > 0 && length < text.length() && isLetter(text.charAt(length)) && isLetter(text.charAt(start - 1))) {
                start--;
            }
            String part = text.substring(0, length);
            if (isGame) {
                game(part, 1, start);
            } else if (part.isEmpty() || part.endsWith(";")) {
                script(part, 0, -1);
            } else {
                script(part, 1, start);
            }
        }
    }

    private static boolean isLetter(char c) {
        return c >= 'a' && c <= 'z';
    }

    private static void theSmallestCode() {
        Document.terms("If several errors apply to the same token, the one with the smallest code is reported.");
        // a number that is too great, where no number may stand: 1, not 2
        script("99999;", 1, 0);
        script("turn 1 99999;", 1, 7);
        script("turn 1;99999", 1, 7);
        script("turn 1;".repeat(20) + "99999", 1, 140);
        game("99999", 1, 0);
        game("game 1 2 3 4 99999", 1, 13);
        game(HEAD + "99999", 1, 13);
        game(HEAD + POOR.repeat(10) + "99999", 1, HEAD.length() + 10 * POOR.length());
        // a 21st first word that is no command, an 11th or 5th one that is none of its kind: 1, not 3
        for (String word : new String[] {"turns", "tur", "x", "game", "king", "bridge"}) {
            script("turn 1;".repeat(20) + word + " 1;", 1, 140);
        }
        for (String word : new String[] {"kings", "beggars", "game", "west", "turn"}) {
            game(HEAD + POOR.repeat(10) + word + " west 0 0 0;", 1, HEAD.length() + 10 * POOR.length());
        }
        for (String word : new String[] {"bridges", "king", "beggar", "turn"}) {
            game(HEAD + POOR.repeat(10) + BRIDGE.repeat(4) + word, 1, HEAD.length() + 10 * POOR.length() + 4 * BRIDGE.length());
        }
    }

    private static void codeOne() {
        Document.terms("Code 1: the token is not allowed at this place, it is invalid, or the text ends too early.");
        String[] tokens = SMALL.replace(";", " ; ").split(" ");
        for (int i = 0; i < tokens.length; i++) {
            int offset = String.join(" ", java.util.Arrays.copyOf(tokens, i)).length() + (i == 0 ? 0 : 1);
            for (String wrong : new String[] {"x", "1", ";", "!", ""}) {
                boolean same = wrong.equals(tokens[i]) || wrong.equals("1") && Character.isDigit(tokens[i].charAt(0));
                if (!same) {
                    String[] spoiled = java.util.Arrays.copyOf(tokens, i + 1);
                    spoiled[i] = wrong;
                    String text = String.join(" ", spoiled);
                    game(text, 1, wrong.isEmpty() ? text.length() : offset);
                }
            }
        }
        for (String command : new String[] {"drop 0 1 ;", "pick 0 1 ;", "lay 0 0 ;", "lift 0 0 ;", "swap 0 1 ;", "queue 0 0 ;", "quit 0 ;",
            "pride 0 0 ;", "turn 1 ;"}) {
            String[] parts = command.split(" ");
            for (int i = 1; i < parts.length; i++) {
                String before = String.join(" ", java.util.Arrays.copyOf(parts, i)) + " ";
                boolean number = i < parts.length - 1;
                script(before, 1, before.length());
                script(before + "x", 1, before.length());
                script(before + "!", 1, before.length());
                script(before + (number ? ";" : "1"), 1, before.length());
            }
        }
    }

    private static void codeTwo() {
        Document.terms("Code 2: a number is out of range.");
        script("turn 50;", 0, -1);
        script("turn 51;", 2, 5);
        script("turn 51", 2, 5);
        script("drop 10 1000;", 2, 5);
        script("drop 9 1000;", 2, 7);
        script("drop 9 999;", 0, -1);
        game("game 90 9 99 100", 2, 13);
        game(HEAD + POOR.repeat(3) + "bridge 5 5 1;", 2, 76);
        game(HEAD + POOR.repeat(3) + "bridge 5 4 1;", 0, -1);
    }

    private static void codeThree() {
        Document.terms("Code 3: the first word of the 11th person or of the 5th bridge of a game, or the first word of the 21st command of a script.");
        String ten = HEAD + POOR.repeat(10);
        game(ten + BRIDGE, 0, -1);
        for (String kind : new String[] {"king", "beggar"}) {
            game(HEAD + POOR.repeat(9) + kind + " west 0 0 0;" + BRIDGE, 0, -1);
            game(ten + kind, 3, ten.length());
            game(ten + " " + kind + "!", 3, ten.length() + 1);
            game(ten + kind + " west 0 0 0;" + BRIDGE, 3, ten.length());
        }
        for (String head : new String[] {SMALL, ten + BRIDGE}) {
            String four = head + BRIDGE.repeat(3);
            game(four, 0, -1);
            game(four + "bridge", 3, four.length());
            game(four + "\nbridge 99", 3, four.length() + 1);
        }
        for (String verb : VERBS) {
            String twenty = "turn 1;".repeat(20);
            script(twenty + verb, 3, 140);
            script(twenty + "\n" + verb + " 99999;", 3, 141);
        }
        script("quit 9;".repeat(20), 0, -1);
        script("quit 9;".repeat(21), 3, 140);
    }
}
