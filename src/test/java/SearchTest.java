/** Promises 8 and 9: run, tries. */
public final class SearchTest {
    private static final Check CHECK = new Check();

    public static void main(String[] args) {
        boundsAreLookedAtFirst();
        onePlanInAsManyTriesAsPins();
        noTwoKeysAreAlike();
        limitIsExact();
        noPlanIsToldAtItsLastTry();
        unlawfulPinsAreLeftAtOnce();
        laterKeysMakeEarlierOnesGoBack();
        earlierKeysMayNotFitWiderDoors();
        laterKeysMayNotFitWideDoors();
        topBindsEachPin();
        searchWithoutPlanLosesTheOldOne();
        triesAreOfTheLatestSearch();
        CHECK.end();
    }

    private static void boundsAreLookedAtFirst() {
        MasterKeys x = new MasterKeys(3, 3);
        for (int tries : new int[] {-1, 200001, Integer.MIN_VALUE, Integer.MAX_VALUE}) {
            CHECK.illegalArgument("8: run(" + tries + ") without keys", () -> x.run(tries));
        }
        for (int tries : new int[] {0, 1, 200000}) {
            CHECK.illegalState("8: run(" + tries + ") without keys", () -> x.run(tries));
        }
        x.door();
        CHECK.illegalState("8: run(1) with a door alone", () -> x.run(1));
        CHECK.due("9: tries() without a search", x.tries(), 0);
    }

    private static void onePlanInAsManyTriesAsPins() {
        for (int pins = 2; pins <= 6; pins++) {
            MasterKeys x = Check.plan(pins, 8, 1, 0);
            CHECK.due("8: run with a try too few", x.run(pins - 1), 2);
            CHECK.due("9: tries with a try too few", x.tries(), pins - 1);
            CHECK.due("8: run with just enough", x.run(pins), 1);
            CHECK.due("9: tries with just enough", x.tries(), pins);
            CHECK.due("8: run with 200000", x.run(200000), 1);
            CHECK.due("9: tries with 200000", x.tries(), pins);
            CHECK.due("8: cuts", Check.cuts(x, 0, pins), "000000".substring(0, pins));
        }
    }

    private static void noTwoKeysAreAlike() {
        MasterKeys x = Check.plan(2, 2, 4, 0);
        CHECK.due("8: four keys of four rows", x.run(200000), 1);
        for (int key = 0; key < 4; key++) {
            CHECK.due("8: cuts of key " + key, Check.cuts(x, key, 2), "" + key / 2 + key % 2);
        }
        // 00: 2 tries; 01: 3; 10: 0, 00, 01, 1, 10; 11: 0, 00, 01, 1, 10, 11
        CHECK.due("9: tries", x.tries(), 2 + 3 + 5 + 6);
        x.key();
        CHECK.due("8: five keys of four rows", x.run(200000), 0);
        CHECK.due("9: tries for five keys", x.tries(), 390);
    }

    private static void limitIsExact() {
        MasterKeys x = Check.plan(2, 2, 4, 0);
        for (int tries = 0; tries <= 20; tries++) {
            CHECK.due("8: run(" + tries + ")", x.run(tries), tries < 16 ? 2 : 1);
            CHECK.due("9: tries behind run(" + tries + ")", x.tries(), Math.min(tries, 16));
            CHECK.due("8: wrong behind run(" + tries + ")", x.wrong(), tries < 16 ? MasterKeys.NONE : 0);
        }
    }

    private static void noPlanIsToldAtItsLastTry() {
        MasterKeys x = Check.plan(2, 2, 5, 0);
        CHECK.due("8: run(389)", x.run(389), 2);
        CHECK.due("9: tries behind run(389)", x.tries(), 389);
        CHECK.due("8: run(390)", x.run(390), 0);
        CHECK.due("9: tries behind run(390)", x.tries(), 390);
        CHECK.due("8: wrong behind no plan", x.wrong(), MasterKeys.NONE);
    }

    private static void unlawfulPinsAreLeftAtOnce() {
        MasterKeys x = Check.plan(3, 2, 1, 0);
        x.bar(0, 0, true);
        x.bar(0, 1, true);
        x.bar(1, 0, true);
        // 0, 00, 01, 1, 10, 11, 110, 111
        CHECK.due("8: run where 111 alone is lawful", x.run(100), 1);
        CHECK.due("9: its tries", x.tries(), 8);
        CHECK.due("8: its cuts", Check.cuts(x, 0, 3), "111");
        x.bar(1, 1, true);
        CHECK.due("8: run where no row is lawful", x.run(100), 0);
        CHECK.due("9: its tries", x.tries(), 6);
        x.bar(1, 1, false);
        x.key();
        CHECK.due("8: run where one row is lawful, for two keys", x.run(100), 0);
        CHECK.due("9: its tries", x.tries(), 16);
    }

    private static void laterKeysMakeEarlierOnesGoBack() {
        MasterKeys x = Check.plan(2, 2, 3, 2);
        x.must(0, 0, true);
        x.must(1, 1, true);
        x.must(2, 0, true);
        x.must(2, 1, true);
        CHECK.due("8: a master of two", x.run(200000), 1);
        CHECK.due("8: cuts 0", Check.cuts(x, 0, 2), "00");
        CHECK.due("8: cuts 1", Check.cuts(x, 1, 2), "11");
        CHECK.due("8: cuts 2", Check.cuts(x, 2, 2), "01");
        // 00: 2; 01: 3, then 6 in vain; 10: 2, then 6 in vain; 11: 1, then 0, 00, 01
        CHECK.due("9: tries", x.tries(), 2 + 3 + 6 + 2 + 6 + 1 + 3);
    }

    private static void earlierKeysMayNotFitWiderDoors() {
        // with 01 and 10 the door would hold 00 too: that is key 0's, which must not open it
        MasterKeys x = Check.plan(2, 2, 3, 1);
        x.must(1, 0, true);
        x.must(2, 0, true);
        CHECK.due("8: run", x.run(200000), 1);
        CHECK.due("8: cuts 0", Check.cuts(x, 0, 2), "00");
        CHECK.due("8: cuts 1", Check.cuts(x, 1, 2), "01");
        CHECK.due("8: cuts 2", Check.cuts(x, 2, 2), "11");
        // 00: 2; 01: 3; then 0, 00, 01, 1, 10, 11
        CHECK.due("9: tries", x.tries(), 2 + 3 + 6);
    }

    private static void laterKeysMayNotFitWideDoors() {
        // 00, 01, 10 open the door, hence 11 fits it too: key 3, which must not open it, goes on
        MasterKeys x = Check.plan(2, 3, 4, 1);
        x.must(0, 0, true);
        x.must(1, 0, true);
        x.must(2, 0, true);
        x.top(2);
        x.bar(0, 2, true);
        CHECK.due("8: run", x.run(200000), 1);
        CHECK.due("8: cuts 2", Check.cuts(x, 2, 2), "10");
        CHECK.due("8: cuts 3", Check.cuts(x, 3, 2), "12");
    }

    private static void topBindsEachPin() {
        for (int pins = 2; pins <= 6; pins++) {
            // two keys of one door differ at some pin, whichever it is
            MasterKeys x = Check.plan(pins, 2, 2, 1);
            x.must(0, 0, true);
            x.must(1, 0, true);
            x.top(1);
            CHECK.due("8: two keys of a door with TOP 1", x.run(200000), 0);
            x.top(2);
            CHECK.due("8: two keys of a door with TOP 2", x.run(200000), 1);
        }
    }

    private static void searchWithoutPlanLosesTheOldOne() {
        MasterKeys x = Check.plan(2, 2, 2, 1);
        x.must(0, 0, true);
        CHECK.due("8: run", x.run(100), 1);
        CHECK.due("8: run with too few", x.run(4), 2);
        CHECK.due("8: cut behind 2", x.cut(0, 0), MasterKeys.NONE);
        CHECK.due("8: holds behind 2", x.holds(0, 0, 0), false);
        CHECK.due("8: fits behind 2", x.fits(0, 0), false);
        CHECK.due("8: wrong behind 2", x.wrong(), MasterKeys.NONE);
        CHECK.illegalState("8: left behind 2", x::left);
        CHECK.illegalState("8: add behind 2", () -> x.add(0));
        CHECK.illegalState("8: heirs behind 2", () -> x.heirs(0));
        CHECK.due("8: run again", x.run(5), 1);
        CHECK.due("8: the plan is there again", x.wrong(), 0);
    }

    private static void triesAreOfTheLatestSearch() {
        MasterKeys x = Check.plan(2, 2, 2, 0);
        x.run(100);
        CHECK.due("9: tries", x.tries(), 5);
        x.run(3);
        CHECK.due("9: tries of the later one", x.tries(), 3);
        CHECK.illegalArgument("9: run(-1)", () -> x.run(-1));
        CHECK.due("9: tries behind one that throws", x.tries(), 3);
        x.run(0);
        CHECK.due("9: tries of run(0)", x.tries(), 0);
        x.run(100);
        x.add(0);
        CHECK.due("9: add() is no search", x.tries(), 5);
        x.key();
        CHECK.due("9: tries stay behind key()", x.tries(), 5);
    }
}
