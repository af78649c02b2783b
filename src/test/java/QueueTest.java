/** Promises 36 to 42: queues and bridges. */
public final class QueueTest {
    private static final String TEN = "game 0 0 0 0;" + "beggar west 99 0 0;".repeat(9) + "beggar east 99 0 0;bridge 1 0 1;";

    public static void main(String[] args) {
        theGreatestOfferIsFirst();
        theTwoQueuesAreApart();
        thereIsNobodyAtThatPlace();
        offersAreTold();
        bridgesOpenByTheirPhase();
        bridgesInTurn10000();
        theFirstPlaceOffer();
        thereIsNoSuchPersonOrBridge();
        Check.finish();
    }

    private static void queueIs(BeggarKings x, boolean isEast, int... people) {
        Check.same("queueLength", x.queueLength(isEast), people.length);
        for (int place = 0; place < people.length; place++) {
            Check.same("queued " + place, x.queued(isEast, place), people[place]);
        }
        Check.same("queued after the last", x.queued(isEast, people.length), -1);
    }

    private static void theGreatestOfferIsFirst() {
        BeggarKings x = Check.loaded(TEN);
        Check.same("place of 5", x.joinQueue(5, 10), 0);
        Check.same("place of 3", x.joinQueue(3, 10), 1);
        Check.same("place of 7", x.joinQueue(7, 20), 0);
        Check.same("place of 1", x.joinQueue(1, 10), 3);
        Check.same("place of 0", x.joinQueue(0, 0), 4);
        Check.same("place of 8", x.joinQueue(8, 11), 1);
        Check.same("place of 2", x.joinQueue(2, 0), 6);
        queueIs(x, false, 7, 8, 5, 3, 1, 0, 2);
        x.quitQueue(5);
        queueIs(x, false, 7, 8, 3, 1, 0, 2);
        Check.same("place of 5 again", x.joinQueue(5, 10), 4);
        queueIs(x, false, 7, 8, 3, 1, 5, 0, 2);
        x.passTurns(1);
        queueIs(x, false, 8, 3, 1, 5, 0, 2);
        x.quitQueue(2);
        x.quitQueue(8);
        queueIs(x, false, 3, 1, 5, 0);
    }

    private static void theTwoQueuesAreApart() {
        BeggarKings x = new BeggarKings();
        x.joinQueue(0, 1);
        x.joinQueue(3, 9);
        x.joinQueue(4, 10);
        x.joinQueue(1, 2);
        queueIs(x, false, 1, 0);
        queueIs(x, true, 4, 3);
    }

    private static void thereIsNobodyAtThatPlace() {
        BeggarKings x = new BeggarKings();
        x.joinQueue(0, 1);
        for (int place : new int[] {-1, 1, 2, 9, 10, 11, Integer.MIN_VALUE, Integer.MAX_VALUE}) {
            Check.same("queued " + place, x.queued(false, place), -1);
        }
        Check.same("queued east 0", x.queued(true, 0), -1);
    }

    private static void offersAreTold() {
        BeggarKings x = new BeggarKings();
        x.joinQueue(0, 0);
        x.joinQueue(1, 99);
        x.joinQueue(3, 7);
        int[] offers = {0, 99, -1, 7, -1};
        for (int p = 0; p < 5; p++) {
            Check.same("offer " + p, x.offer(p), offers[p]);
        }
        x.passTurns(1);
        Check.same("offer of a person who crossed", x.offer(0), -1);
        Check.same("offer of a person who was turned away", x.offer(1), -1);
        Check.same("offer of a person who still queues", x.offer(3), 7);
        x.quitQueue(3);
        Check.same("offer of a person who quitted", x.offer(3), -1);
    }

    private static void bridgesOpenByTheirPhase() {
        BeggarKings x = Check.loaded("game 0 0 0 0;" + "beggar west 0 0 0;".repeat(3) + "bridge 2 1 1;bridge 3 0 2;bridge 9 4 3;bridge 1 0 1;");
        Check.same("bridgeCount", x.bridgeCount(), 4);
        for (int turn = 0; turn < 30; turn++) {
            Check.same("turn", x.turn(), turn);
            Check.same("isOpen 0 in " + turn, x.isOpen(0), turn % 2 == 1);
            Check.same("isOpen 1 in " + turn, x.isOpen(1), turn % 3 == 0);
            Check.same("isOpen 2 in " + turn, x.isOpen(2), turn % 9 == 4);
            Check.same("isOpen 3 in " + turn, x.isOpen(3), true);
            Check.same("room in " + turn, x.room(), turn % 2 + (turn % 3 == 0 ? 2 : 0) + (turn % 9 == 4 ? 3 : 0) + 1);
            x.passTurns(1);
        }
        BeggarKings y = Check.loaded("game 0 0 0 0;" + "beggar west 0 0 0;".repeat(3) + "bridge 2 1 1;");
        Check.same("bridgeCount", y.bridgeCount(), 1);
        Check.same("room", y.room(), 0);
    }

    private static void bridgesInTurn10000() {
        BeggarKings x = PeopleTest.atTheEnd();
        Check.same("isOpen 0", x.isOpen(0), true);
        Check.same("isOpen 1: 10000 % 3 is 1", x.isOpen(1), true);
        Check.same("room", x.room(), 3);
    }

    private static void theFirstPlaceOffer() {
        BeggarKings x = Check.loaded(TEN);
        Check.same("in an empty queue", x.firstPlaceOffer(0), 0);
        x.joinQueue(0, 5);
        Check.same("of the only one", x.firstPlaceOffer(0), 0);
        Check.same("of another", x.firstPlaceOffer(1), 6);
        Check.same("on the other bank", x.firstPlaceOffer(9), 0);
        x.joinQueue(1, 5);
        Check.same("of the first", x.firstPlaceOffer(0), 6);
        Check.same("of the second", x.firstPlaceOffer(1), 6);
        x.joinQueue(2, 98);
        Check.same("of the first", x.firstPlaceOffer(2), 6);
        Check.same("of the second", x.firstPlaceOffer(0), 99);
        Check.same("of one who does not queue", x.firstPlaceOffer(5), 99);
        x.joinQueue(3, 99);
        Check.same("there is none", x.firstPlaceOffer(5), -1);
        Check.same("there is none in the queue", x.firstPlaceOffer(2), -1);
        Check.same("of the first with 99", x.firstPlaceOffer(3), 99);
        Check.same("it changes nothing", x.queueLength(false), 4);
        x.joinQueue(4, 99);
        Check.same("there is none even of the first", x.firstPlaceOffer(3), -1);
        BeggarKings y = Check.loaded(TEN);
        y.joinQueue(0, 0);
        Check.same("above an offer of 0", y.firstPlaceOffer(1), 1);
    }

    private static void thereIsNoSuchPersonOrBridge() {
        BeggarKings x = new BeggarKings();
        for (int no : new int[] {-1, 5, 10, Integer.MIN_VALUE, Integer.MAX_VALUE}) {
            Check.noPerson("offer " + no, () -> x.offer(no));
            Check.noPerson("firstPlaceOffer " + no, () -> x.firstPlaceOffer(no));
        }
        for (int no : new int[] {-1, 2, 3, 4, Integer.MIN_VALUE, Integer.MAX_VALUE}) {
            Check.noPerson("isOpen " + no, () -> x.isOpen(no) ? 1 : 0);
        }
    }
}
