/** Promises 58 and 59: writeQueue and outputByte. */
public final class OutputTest {
    public static void main(String[] args) {
        queuesAreWritten();
        theKeepersGuessIsTheOneOfNow();
        theLongestOutput();
        theOutputChangesInWriteQueueOnly();
        thereIsNoSuchByte();
        Check.finish();
    }

    private static void written(BeggarKings x, boolean isEast, String due) {
        int size = x.writeQueue(isEast);
        Check.same("writeQueue", size, due.length());
        Check.same("output", Check.output(x, size), due);
        Check.noPerson("outputByte after the last", () -> x.outputByte(size));
    }

    private static void queuesAreWritten() {
        BeggarKings x = new BeggarKings();
        written(x, false, "");
        written(x, true, "");
        x.joinQueue(1, 0);
        written(x, false, "1:0");
        written(x, true, "");
        x.joinQueue(0, 9);
        written(x, false, "0:9! 1:0");
        x.joinQueue(2, 10);
        written(x, false, "2:10 0:9! 1:0");
        x.joinQueue(3, 99);
        x.joinQueue(4, 90);
        written(x, true, "3:99! 4:90");
        written(x, false, "2:10 0:9! 1:0");
        x.quitQueue(0);
        written(x, false, "2:10 1:0");
    }

    private static void theKeepersGuessIsTheOneOfNow() {
        BeggarKings x = new BeggarKings();
        x.joinQueue(4, 1);
        written(x, true, "4:1");
        x.setPride(4, 40);
        written(x, true, "4:1!");
        Check.same("the output is kept", x.outputByte(3), 33);
        x.setPride(4, 35);
        written(x, true, "4:1");
    }

    private static void theLongestOutput() {
        BeggarKings x = Check.loaded("game 90 0 0 0;" + "king east 0 0 0;".repeat(10) + "bridge 1 0 1;");
        StringBuilder due = new StringBuilder();
        for (int p = 0; p < 10; p++) {
            x.joinQueue(p, 99 - p);
            due.append(p == 0 ? "" : " ").append(p).append(':').append(99 - p).append('!');
        }
        written(x, true, due.toString());
        Check.same("its length", x.writeQueue(true), 59);
    }

    private static void theOutputChangesInWriteQueueOnly() {
        BeggarKings x = new BeggarKings();
        x.joinQueue(2, 10);
        x.saveSnapshot();
        x.writeQueue(false);
        x.quitQueue(2);
        x.undo();
        x.restoreSnapshot();
        x.passTurns(1);
        Check.load(x, NewGameTest.FIRST_GAME);
        Check.load(x, "x");
        Check.run(x, "turn 1;");
        Check.same("output", Check.output(x, 4), "2:10");
        Check.noPerson("outputByte 4", () -> x.outputByte(4));
        Check.same("writeQueue", x.writeQueue(false), 0);
        Check.noPerson("outputByte 0 after an empty queue", () -> x.outputByte(0));
    }

    private static void thereIsNoSuchByte() {
        BeggarKings x = new BeggarKings();
        x.joinQueue(1, 7);
        x.writeQueue(false);
        Check.same("outputByte 0", x.outputByte(0), 49);
        Check.same("outputByte 1", x.outputByte(1), 58);
        Check.same("outputByte 2", x.outputByte(2), 55);
        for (int index : new int[] {-1, 3, 63, 64, 100, Integer.MIN_VALUE, Integer.MAX_VALUE}) {
            Check.noPerson("outputByte " + index, () -> x.outputByte(index));
        }
    }
}
