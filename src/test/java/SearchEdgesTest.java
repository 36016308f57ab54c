/** The bounds that promises 8 and 9 name, and those of THE SEARCH in the terms. */
public final class SearchEdgesTest {
    private static final Check CHECK = new Check();

    public static void main(String[] args) {
        triesAreNotOutOfBounds();
        triesAreWithinBounds();
        thereAreNoKeys();
        theArgumentIsNamedFirst();
        noTriesAtAll();
        aPlanAtTheLastTry();
        noneAtTheLastTry();
        noneAtTheLastTryOfAll();
        aPlanAtTheLastTryOfAll();
        aPlanBehindTheLastTryOfAll();
        moreThanTheMostTries();
        noPlanIsFoundBehindTwo();
        noPlanIsFoundBehindZero();
        keyZerosFirstPinIsTheLastToGoBackTo();
        eightKeysOfSixDoors();
        noTriesWithoutASearch();
        triesOfTheLatestSearch();
        CHECK.end();
    }

    private static void triesAreNotOutOfBounds() {
        CHECK.sentence("Illegal argument: tries are not 0 .. 200000");
        MasterKeys x = Check.plan(2, 2, 1, 0);
        for (int tries : Edges.outside(0, 200000)) {
            CHECK.illegalArgument("run(" + tries + ")", () -> x.run(tries));
        }
        CHECK.due("tries() behind the refused ones", x.tries(), 0);
        CHECK.due("wrong() behind the refused ones", x.wrong(), MasterKeys.NONE);
    }

    private static void triesAreWithinBounds() {
        CHECK.sentence("The search, with no more than so many tries");
        MasterKeys x = Check.plan(2, 2, 1, 0);
        CHECK.due("run(0)", x.run(0), 2);
        CHECK.due("run(1)", x.run(1), 2);
        CHECK.due("run(2)", x.run(2), 1);
        CHECK.due("run(199999)", x.run(199999), 1);
        CHECK.due("run(200000)", x.run(200000), 1);
    }

    private static void thereAreNoKeys() {
        CHECK.sentence("illegal state: there are no keys");
        for (int doors = 0; doors <= 6; doors++) {
            MasterKeys x = Check.plan(2, 2, 0, doors);
            for (int tries : Edges.inside(0, 200000)) {
                CHECK.illegalState("run(" + tries + ") with " + doors + " doors", () -> x.run(tries));
            }
            CHECK.due("tries() behind the refused ones", x.tries(), 0);
            x.key();
            CHECK.due("run(2) with a key", x.run(2), 1);
        }
    }

    private static void theArgumentIsNamedFirst() {
        CHECK.sentence("Of several exceptions the one named first is thrown");
        MasterKeys x = new MasterKeys(2, 2);
        for (int tries : Edges.outside(0, 200000)) {
            CHECK.illegalArgument("run(" + tries + ") without keys", () -> x.run(tries));
        }
    }

    private static void noTriesAtAll() {
        CHECK.sentence("2: it would need more tries");
        for (int keys = 1; keys <= 8; keys++) {
            MasterKeys x = Check.plan(2, 8, keys, 0);
            CHECK.due("run(0) with " + keys + " keys", x.run(0), 2);
            CHECK.due("tries()", x.tries(), 0);
            CHECK.due("wrong()", x.wrong(), MasterKeys.NONE);
        }
    }

    private static void aPlanAtTheLastTry() {
        CHECK.sentence("with no more than so many tries: 1: a plan is found");
        // key n of rows 00, 01, .. 07: one try for the first pin and n + 1 for the second
        int need = 0;
        for (int keys = 1; keys <= 8; keys++) {
            need += keys + 1;
            answersAbout(Check.plan(2, 8, keys, 0), need, 1);
        }
    }

    private static void noneAtTheLastTry() {
        CHECK.sentence("with no more than so many tries: 0: there is none");
        // both keys of a door with one depth at each pin: all rows for key 1 behind each row of key 0
        for (int depths = 2; depths <= 8; depths++) {
            MasterKeys x = Check.plan(2, depths, 2, 1);
            x.must(0, 0, true);
            x.must(1, 0, true);
            x.top(1);
            int rows = depths * depths;
            answersAbout(x, (depths + rows) * (1 + rows), 0);
        }
    }

    /** A search that ends with its need's last try: what one try fewer and one more answer. */
    private static void answersAbout(MasterKeys x, int need, int want) {
        CHECK.due("run(" + (need - 1) + ")", x.run(need - 1), 2);
        CHECK.due("tries() behind it", x.tries(), need - 1);
        CHECK.due("run(" + need + ")", x.run(need), want);
        CHECK.due("tries() behind it", x.tries(), need);
        CHECK.due("run(" + (need + 1) + ")", x.run(need + 1), want);
        CHECK.due("tries() behind it", x.tries(), need);
        CHECK.due("run(200000)", x.run(200000), want);
        CHECK.due("tries() behind it", x.tries(), need);
    }

    private static void noneAtTheLastTryOfAll() {
        CHECK.sentence("0: there is none; 2: it would need more tries, with 200000");
        // drawn until a search was met that ends in vain with just 200000 tries
        MasterKeys x = told(2, 4, new int[] {3, 2, 2, 1, 3, 1, 2}, 2);
        x.bar(0, 3, true);
        x.top(2);
        endsWithTheLastTryOfAll(x, 0);
    }

    private static void aPlanAtTheLastTryOfAll() {
        CHECK.sentence("1: a plan is found; 2: it would need more tries, with 200000");
        // drawn until a search was met that finds with just 200000 tries
        MasterKeys x = told(4, 3, new int[] {5, 13, 10, 13, 13, 12, 14}, 4);
        x.bar(1, 1, true);
        x.top(3);
        endsWithTheLastTryOfAll(x, 1);
        CHECK.due("wrong()", x.wrong(), 0);
    }

    private static void aPlanBehindTheLastTryOfAll() {
        CHECK.sentence("2: it would need more tries, with 200000");
        // drawn until a search was met that would find with just 200001 tries
        MasterKeys x = told(6, 3, new int[] {26, 47, 31, 6, 60, 61, 50, 19}, 6);
        x.bar(2, 0, true);
        x.step(2);
        x.top(3);
        endsWithTheLastTryOfAll(x, 2);
        CHECK.due("wrong()", x.wrong(), MasterKeys.NONE);
    }

    private static void endsWithTheLastTryOfAll(MasterKeys x, int want) {
        CHECK.due("run(199999)", x.run(199999), 2);
        CHECK.due("tries() behind it", x.tries(), 199999);
        CHECK.due("run(200000)", x.run(200000), want);
        CHECK.due("tries() behind it", x.tries(), 200000);
    }

    /** A key for each set of doors (2 to the power of each), that must open these. */
    private static MasterKeys told(int pins, int depths, int[] sets, int doors) {
        MasterKeys x = Check.plan(pins, depths, sets.length, doors);
        for (int key = 0; key < sets.length; key++) {
            for (int door = 0; door < doors; door++) {
                x.must(key, door, (sets[key] >> door & 1) != 0);
            }
        }
        return x;
    }

    private static void moreThanTheMostTries() {
        CHECK.sentence("2: it would need more tries, with 200000");
        MasterKeys x = Check.plan(6, 8, 2, 1);
        x.must(0, 0, true);
        x.must(1, 0, true);
        x.top(1);
        CHECK.due("run(199999)", x.run(199999), 2);
        CHECK.due("tries() behind it", x.tries(), 199999);
        CHECK.due("run(200000)", x.run(200000), 2);
        CHECK.due("tries() behind it", x.tries(), 200000);
    }

    private static void noPlanIsFoundBehindTwo() {
        CHECK.sentence("2: it would need more tries (no plan is found)");
        MasterKeys x = Check.plan(2, 3, 2, 1);
        x.must(0, 0, true);
        CHECK.due("run(5)", x.run(5), 1);
        CHECK.due("run(4)", x.run(4), 2);
        nothingIsFound(x);
        CHECK.due("run(5) again", x.run(5), 1);
        CHECK.due("run(0)", x.run(0), 2);
        nothingIsFound(x);
    }

    private static void noPlanIsFoundBehindZero() {
        CHECK.sentence("0: there is none");
        MasterKeys x = Check.plan(2, 3, 2, 1);
        x.must(0, 0, true);
        x.must(1, 0, true);
        x.top(1);
        CHECK.due("run(200000)", x.run(200000), 0);
        nothingIsFound(x);
    }

    private static void nothingIsFound(MasterKeys x) {
        CHECK.due("cut(0, 0)", x.cut(0, 0), MasterKeys.NONE);
        CHECK.due("holds(0, 0, 0)", x.holds(0, 0, 0), false);
        CHECK.due("fits(0, 0)", x.fits(0, 0), false);
        CHECK.due("wrong()", x.wrong(), MasterKeys.NONE);
        CHECK.illegalState("left()", x::left);
        CHECK.illegalState("add(0)", () -> x.add(0));
        CHECK.illegalState("heirs(0)", () -> x.heirs(0));
    }

    private static void keyZerosFirstPinIsTheLastToGoBackTo() {
        CHECK.sentence("behind the last one it goes back to the pin before (of key 0's first pin: there is no plan)");
        // the only rows are 66 and 77: key 0 takes 66, key 1 takes 77, and key 2 has none
        MasterKeys x = Check.plan(2, 8, 2, 0);
        for (int pair = 0; pair < 64; pair++) {
            x.bar(pair / 8, pair % 8, pair != 6 * 8 + 6 && pair != 7 * 8 + 7);
        }
        CHECK.due("run for two keys", x.run(200000), 1);
        CHECK.due("tries for two keys", x.tries(), 7 + 6 * 8 + 7 + 8 * 9);
        x.key();
        CHECK.due("run for three keys", x.run(200000), 0);
        CHECK.due("tries for three keys", x.tries(), 72 * (1 + 2 + 2));
    }

    private static void eightKeysOfSixDoors() {
        CHECK.sentence("so that each key fits just the doors that it must open, with 8 keys and 6 doors");
        int[] opens = {1, 2, 4, 8, 16, 32, 0, 63};
        MasterKeys x = told(6, 8, opens, 6);
        CHECK.due("run(200000)", x.run(200000), 1);
        for (int key = 0; key < 8; key++) {
            CHECK.due("cuts of key " + key, Check.cuts(x, key, 6), "00000" + key);
            for (int door = 0; door < 6; door++) {
                CHECK.due("fits(" + key + ", " + door + ")", x.fits(key, door), (opens[key] >> door & 1) != 0);
            }
        }
        CHECK.due("wrong()", x.wrong(), 0);
    }

    private static void noTriesWithoutASearch() {
        CHECK.sentence("How many tries the latest search made; 0 without one");
        MasterKeys x = new MasterKeys(2, 2);
        CHECK.due("tries() of a new object", x.tries(), 0);
        CHECK.illegalState("run(5) without keys", () -> x.run(5));
        CHECK.due("tries() behind it", x.tries(), 0);
        x.key();
        x.door();
        x.must(0, 0, true);
        x.step(3);
        x.bar(0, 0, true);
        x.top(3);
        CHECK.due("tries() behind what was told", x.tries(), 0);
        CHECK.illegalArgument("run(200001)", () -> x.run(200001));
        CHECK.due("tries() behind it", x.tries(), 0);
    }

    private static void triesOfTheLatestSearch() {
        CHECK.sentence("How many tries the latest search made");
        MasterKeys x = Check.plan(2, 2, 1, 0);
        x.run(200000);
        CHECK.due("tries() of a search that finds", x.tries(), 2);
        x.run(1);
        CHECK.due("tries() of a search that needs more", x.tries(), 1);
        x.run(0);
        CHECK.due("tries() of a search without tries", x.tries(), 0);
        for (int pair = 0; pair < 4; pair++) {
            x.bar(pair / 2, pair % 2, true);
        }
        x.run(200000);
        CHECK.due("tries() of a search in vain", x.tries(), 6);
        CHECK.illegalArgument("run(-1)", () -> x.run(-1));
        CHECK.due("tries() behind a refused one", x.tries(), 6);
        x.key();
        x.door();
        x.must(0, 0, true);
        x.step(3);
        x.bar(0, 0, false);
        x.top(3);
        CHECK.due("tries() behind what was told", x.tries(), 6);
    }
}
