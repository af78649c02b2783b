/** Promises 22 to 29: bows and tolls. */
public final class BowTest {
    public static void main(String[] args) {
        bowsToOtherPeople();
        bowsAreCutAt0And90();
        bowsToTheKeeper();
        theLimitItselfIsABeggars();
        wrongGuessesAreCounted();
        theStiffestHasTheSmallestNumber();
        theCheapestRags();
        theMeanBow();
        thereIsNoSuchPerson();
        Check.finish();
    }

    private static void bowsToOtherPeople() {
        BeggarKings x = new BeggarKings();
        Check.same("bowTo 0 1: (45+5-20-10)/2", x.bowTo(0, 1), 10);
        Check.same("bowTo 1 0: 45+20-5", x.bowTo(1, 0), 60);
        Check.same("bowTo 2 3: 45+0-40-5", x.bowTo(2, 3), 0);
        Check.same("bowTo 3 2: (45+40-0-30)/2, rounded down", x.bowTo(3, 2), 27);
        Check.same("bowTo 4 2: 45+40-15-20", x.bowTo(4, 2), 50);
        x.swapRags(0, 2);
        Check.same("bowTo 1 0 in other rags", x.bowTo(1, 0), 80);
        Check.same("bowTo 0 1 in other rags: (45+5-40-10)/2", x.bowTo(0, 1), 0);
        x.setPride(1, 7);
        Check.same("bowTo 1 0 with pride", x.bowTo(1, 0), 73);
        Check.same("bowTo 0 1: another's pride does not count", x.bowTo(0, 1), 0);
    }

    private static void bowsAreCutAt0And90() {
        BeggarKings x = Check.loaded("game 45 0 1 0;beggar west 0 0 0;beggar west 0 40 50;king west 0 0 0;king west 0 40 50;bridge 1 0 1;");
        Check.same("bowTo 0 1: 95", x.bowTo(0, 1), 90);
        Check.same("bowTo 1 0: -45", x.bowTo(1, 0), 0);
        Check.same("bowTo 2 1: 90 / 2", x.bowTo(2, 1), 45);
        Check.same("bowTo 3 0: -45", x.bowTo(3, 0), 0);
        Check.same("bowToKeeper 0", x.bowToKeeper(0), 80);
        Check.same("bowToKeeper 1: -10", x.bowToKeeper(1), 0);
        Check.same("bowToKeeper 2", x.bowToKeeper(2), 40);
        Check.same("bowToKeeper 3: -10", x.bowToKeeper(3), 0);
        BeggarKings y = Check.loaded("game 45 0 1 0;beggar west 0 4 0;beggar west 0 0 49;beggar west 0 5 0;king west 0 5 0;bridge 1 0 1;");
        Check.same("bowTo 0 1: 90", y.bowTo(0, 1), 90);
        Check.same("bowTo 2 1: 89", y.bowTo(2, 1), 89);
        Check.same("bowTo 3 1: 89 / 2", y.bowTo(3, 1), 44);
        Check.same("bowToKeeper 3: 75 / 2", y.bowToKeeper(3), 37);
    }

    private static void bowsToTheKeeper() {
        BeggarKings x = new BeggarKings();
        int[] angles = {25, 75, 35, 25, 45};
        for (int p = 0; p < 5; p++) {
            Check.same("bowToKeeper " + p, x.bowToKeeper(p), angles[p]);
            Check.same("isTakenForKing " + p, x.isTakenForKing(p), angles[p] < 30);
            Check.same("tollOf " + p, x.tollOf(p), angles[p] < 30 ? 9 : 2);
        }
        x.setPride(4, 40);
        x.swapRags(0, 2);
        Check.same("bowToKeeper 4 with pride", x.bowToKeeper(4), 25);
        Check.same("tollOf 4 with pride", x.tollOf(4), 9);
        Check.same("bowToKeeper 0 in other rags", x.bowToKeeper(0), 15);
        Check.same("bowToKeeper 2 in other rags", x.bowToKeeper(2), 55);
    }

    private static void theLimitItselfIsABeggars() {
        BeggarKings x = Check.loaded("game 40 0 7 5;beggar west 0 40 0;beggar west 0 40 1;king west 0 0 0;bridge 1 0 1;");
        Check.same("an angle of 40 with the limit 40", x.isTakenForKing(0), false);
        Check.same("an angle of 39 with the limit 40", x.isTakenForKing(1), true);
        Check.same("tollOf 0", x.tollOf(0), 5);
        Check.same("tollOf 1", x.tollOf(1), 7);
        Check.same("wrongGuesses", x.wrongGuesses(), 2);
        BeggarKings y = Check.loaded("game 0 0 7 5;beggar west 0 40 50;beggar west 0 40 1;king west 0 0 0;bridge 1 0 1;");
        Check.same("nobody bows below 0", y.isTakenForKing(0), false);
    }

    private static void wrongGuessesAreCounted() {
        BeggarKings x = new BeggarKings();
        Check.same("wrongGuesses", x.wrongGuesses(), 0);
        x.setPride(2, 40);
        Check.same("wrongGuesses with a proud beggar", x.wrongGuesses(), 1);
        x.setPride(0, 0);
        x.swapRags(0, 1);
        Check.same("wrongGuesses with a humble king in poor rags", x.wrongGuesses(), 2);
        x.setPride(3, 0);
        Check.same("wrongGuesses with two humble kings", x.wrongGuesses(), 3);
    }

    private static void theStiffestHasTheSmallestNumber() {
        BeggarKings x = new BeggarKings();
        Check.same("stiffest of 0 and 3, who bow 25 each", x.stiffest(), 0);
        x.setPride(3, 32);
        Check.same("stiffest", x.stiffest(), 3);
        x.setPride(2, 40);
        Check.same("stiffest", x.stiffest(), 2);
        x.swapRags(1, 2);
        x.setPride(1, 40);
        Check.same("stiffest", x.stiffest(), 1);
    }

    private static void theCheapestRags() {
        BeggarKings x = new BeggarKings();
        Check.same("cheapestRags 0", x.cheapestRags(0), 1);
        Check.same("cheapestRags 1", x.cheapestRags(1), 0);
        x.setPride(0, 40);
        Check.same("cheapestRags 0: no rags help, so the smallest number", x.cheapestRags(0), 0);
        // the king toll is the smaller one here, and the rags of another bank count too
        BeggarKings y = Check.loaded("game 35 0 1 9;beggar west 0 0 0;beggar west 0 20 10;beggar east 0 0 50;beggar east 0 0 50;bridge 1 0 1;");
        Check.same("cheapestRags 0", y.cheapestRags(0), 2);
        Check.same("cheapestRags 1", y.cheapestRags(1), 2);
        y.swapRags(2, 3);
        Check.same("cheapestRags 0, whoever wears them", y.cheapestRags(0), 2);
        Check.same("cheapestRags changes nothing", y.rags(0), 0);
        // 15 crosses the limit 30 only with the last set
        BeggarKings z = Check.loaded("game 31 0 9 1;beggar west 0 40 50;beggar west 0 40 40;beggar west 0 40 10;beggar west 0 40 9;bridge 1 0 1;");
        Check.same("cheapestRags: 80-9-40 is not less than 31", z.cheapestRags(0), 3);
    }

    private static void theMeanBow() {
        BeggarKings x = new BeggarKings();
        Check.sameReal("meanBow", x.meanBow(), 41.0);
        x.setPride(1, 1);
        Check.sameReal("meanBow", x.meanBow(), 204.0 / 5.0);
        BeggarKings y = Check.loaded("game 31 0 9 1;beggar west 0 0 0;beggar west 0 40 40;beggar west 0 40 40;bridge 1 0 1;");
        Check.sameReal("meanBow", y.meanBow(), 80.0 / 3.0);
    }

    private static void thereIsNoSuchPerson() {
        BeggarKings x = new BeggarKings();
        for (int no : new int[] {-1, 5, 10, Integer.MIN_VALUE, Integer.MAX_VALUE}) {
            Check.noPerson("bowTo " + no + " 0", () -> x.bowTo(no, 0));
            Check.noPerson("bowTo 0 " + no, () -> x.bowTo(0, no));
            Check.noPerson("bowTo " + no + " " + no, () -> x.bowTo(no, no));
            Check.noPerson("bowToKeeper " + no, () -> x.bowToKeeper(no));
            Check.noPerson("isTakenForKing " + no, () -> x.isTakenForKing(no) ? 1 : 0);
            Check.noPerson("tollOf " + no, () -> x.tollOf(no));
            Check.noPerson("cheapestRags " + no, () -> x.cheapestRags(no));
        }
        for (int p = 0; p < 5; p++) {
            int person = p;
            Check.badArgument("bowTo oneself " + p, () -> x.bowTo(person, person));
        }
    }
}
