/** The bounds that promises 2 to 7 name. */
public final class TellingEdgesTest {
    private static final Check CHECK = new Check();

    public static void main(String[] args) {
        thereAreEightKeys();
        thereAreEightKeysWithLaterOnes();
        thereAreSixDoors();
        keysAndDoorsAreCountedApart();
        mustKnowsTheKeysAndDoorsThatThereAre();
        mustIsNotAtFirst();
        mustTellsWhetherItHadToAtTheLastKeyAndDoor();
        stepIsNotOutOfZeroToSeven();
        stepIsWithinZeroToSeven();
        stepBindsAtItsBounds();
        barKnowsTheDepthsThatThereAre();
        barTakesEachPairAlone();
        barOfAllPairsLeavesNoRow();
        topIsNotOutOfOneToEight();
        topIsWithinOneToEight();
        topBindsAtItsBounds();
        CHECK.end();
    }

    private static void thereAreEightKeys() {
        CHECK.sentence("A key: its number. Illegal state: there are 8");
        MasterKeys x = new MasterKeys(2, 2);
        for (int key = 0; key < 8; key++) {
            CHECK.due("key()", x.key(), key);
        }
        for (int again = 0; again < 3; again++) {
            CHECK.illegalState("the ninth key()", x::key);
        }
        CHECK.noException("the eighth key", () -> x.cut(7, 0));
        CHECK.illegalArgument("a ninth key", () -> x.cut(8, 0));
    }

    private static void thereAreEightKeysWithLaterOnes() {
        CHECK.sentence("A key: its number. Illegal state: there are 8");
        for (int first = 1; first <= 8; first++) {
            MasterKeys x = Check.plan(2, 3, first, 0);
            CHECK.due("run", x.run(200000), 1);
            for (int later = first; later < 7; later++) {
                CHECK.due("add(0)", x.add(0), later);
            }
            if (first < 8) {
                CHECK.due("the eighth key() behind " + first + " and later ones", x.key(), 7);
            }
            CHECK.illegalState("the ninth key() behind " + first + " and later ones", x::key);
        }
    }

    private static void thereAreSixDoors() {
        CHECK.sentence("A door: its number. Illegal state: there are 6");
        MasterKeys x = new MasterKeys(2, 2);
        for (int door = 0; door < 6; door++) {
            CHECK.due("door()", x.door(), door);
        }
        for (int again = 0; again < 3; again++) {
            CHECK.illegalState("the seventh door()", x::door);
        }
        CHECK.noException("the sixth door", () -> x.holds(5, 0, 0));
        CHECK.illegalArgument("a seventh door", () -> x.holds(6, 0, 0));
    }

    private static void keysAndDoorsAreCountedApart() {
        CHECK.sentence("KEYS are 0 .. 7 and DOORS 0 .. 5 as they come");
        MasterKeys keys = Check.plan(2, 2, 8, 5);
        CHECK.due("door() with eight keys", keys.door(), 5);
        MasterKeys doors = Check.plan(2, 2, 7, 6);
        CHECK.due("key() with six doors", doors.key(), 7);
    }

    private static void mustKnowsTheKeysAndDoorsThatThereAre() {
        CHECK.sentence("must .. Illegal argument");
        for (int keys = 0; keys <= 8; keys++) {
            for (int doors = 0; doors <= 6; doors++) {
                mustKnows(Check.plan(2, 2, keys, doors), keys, doors);
            }
        }
    }

    private static void mustKnows(MasterKeys x, int keys, int doors) {
        String with = " with " + keys + " keys and " + doors + " doors";
        for (int key : Edges.inside(0, keys - 1)) {
            for (int door : Edges.inside(0, doors - 1)) {
                CHECK.noException("must(" + key + ", " + door + ")" + with, () -> x.must(key, door, true));
            }
            for (int door : Edges.outside(0, doors - 1)) {
                CHECK.illegalArgument("must(" + key + ", " + door + ")" + with, () -> x.must(key, door, true));
            }
        }
        for (int key : Edges.outside(0, keys - 1)) {
            for (int door : Edges.inside(0, doors - 1)) {
                CHECK.illegalArgument("must(" + key + ", " + door + ")" + with, () -> x.must(key, door, false));
            }
            for (int door : Edges.outside(0, doors - 1)) {
                CHECK.illegalArgument("must(" + key + ", " + door + ")" + with, () -> x.must(key, door, false));
            }
        }
    }

    private static void mustIsNotAtFirst() {
        CHECK.sentence("whether the key MUST open it (not, at first)");
        MasterKeys x = Check.plan(2, 2, 8, 6);
        for (int key = 0; key < 8; key++) {
            for (int door = 0; door < 6; door++) {
                CHECK.due("must(" + key + ", " + door + ", true)", x.must(key, door, true), false);
            }
        }
        MasterKeys late = Check.plan(2, 2, 1, 1);
        late.must(0, 0, true);
        late.key();
        late.door();
        CHECK.due("a new key's must", late.must(1, 0, false), false);
        CHECK.due("a new door's must", late.must(0, 1, false), false);
        CHECK.due("the told one stays", late.must(0, 0, false), true);
    }

    private static void mustTellsWhetherItHadToAtTheLastKeyAndDoor() {
        CHECK.sentence("Whether a key must open a door: whether it had to");
        MasterKeys x = Check.plan(2, 2, 8, 6);
        for (int[] pair : new int[][] {{0, 0}, {7, 0}, {0, 5}, {7, 5}}) {
            String call = "must(" + pair[0] + ", " + pair[1] + ") ";
            CHECK.due(call + "told", x.must(pair[0], pair[1], true), false);
            CHECK.due(call + "told again", x.must(pair[0], pair[1], true), true);
            CHECK.due(call + "taken back", x.must(pair[0], pair[1], false), true);
            CHECK.due(call + "taken back again", x.must(pair[0], pair[1], false), false);
        }
    }

    private static void stepIsNotOutOfZeroToSeven() {
        CHECK.sentence("STEP .. Illegal argument: it is not 0 .. 7");
        MasterKeys x = new MasterKeys(2, 8);
        x.step(4);
        for (int most : Edges.outside(0, 7)) {
            CHECK.illegalArgument("step(" + most + ")", () -> x.step(most));
        }
        CHECK.due("STEP behind the refused ones", x.step(4), 4);
    }

    private static void stepIsWithinZeroToSeven() {
        CHECK.sentence("STEP: what it was");
        for (int depths = 2; depths <= 8; depths++) {
            // STEP is 0 .. 7 whatever depths there are
            MasterKeys x = new MasterKeys(2, depths);
            int was = 7;
            for (int most : Edges.inside(0, 7)) {
                CHECK.due("step(" + most + ")", x.step(most), was);
                was = most;
            }
        }
    }

    private static void stepBindsAtItsBounds() {
        CHECK.sentence("those of neighbouring pins differ by no more than STEP");
        for (int step = 0; step <= 7; step++) {
            onlyRowIsLawful(step, 0, step, 1);
            onlyRowIsLawful(step, step, 0, 1);
            onlyRowIsLawful(step, 7 - step, 7, 1);
            onlyRowIsLawful(step, 7, 7 - step, 1);
            if (step < 7) {
                onlyRowIsLawful(step, 0, step + 1, 0);
                onlyRowIsLawful(step, step + 1, 0, 0);
                onlyRowIsLawful(step, 6 - step, 7, 0);
                onlyRowIsLawful(step, 7, 6 - step, 0);
            }
        }
    }

    /** All pairs but one are barred: there is a plan if that one keeps to STEP. */
    private static void onlyRowIsLawful(int step, int first, int second, int want) {
        MasterKeys x = Check.plan(2, 8, 1, 0);
        for (int pair = 0; pair < 64; pair++) {
            x.bar(pair / 8, pair % 8, pair != first * 8 + second);
        }
        x.step(step);
        CHECK.due("run with STEP " + step + " for " + first + " " + second, x.run(200000), want);
    }

    private static void barKnowsTheDepthsThatThereAre() {
        CHECK.sentence("A pair of depths is barred .. Illegal argument: there are no such depths");
        for (int depths = 2; depths <= 8; depths++) {
            MasterKeys x = new MasterKeys(2, depths);
            for (int one : Edges.inside(0, depths - 1)) {
                for (int other : Edges.inside(0, depths - 1)) {
                    CHECK.noException("bar(" + one + ", " + other + ")", () -> x.bar(one, other, true));
                }
                for (int other : Edges.outside(0, depths - 1)) {
                    CHECK.illegalArgument("bar(" + one + ", " + other + ")", () -> x.bar(one, other, true));
                    CHECK.illegalArgument("bar(" + other + ", " + one + ")", () -> x.bar(other, one, false));
                }
            }
            for (int one : Edges.outside(0, depths - 1)) {
                for (int other : Edges.outside(0, depths - 1)) {
                    CHECK.illegalArgument("bar(" + one + ", " + other + ")", () -> x.bar(one, other, true));
                }
            }
        }
    }

    private static void barTakesEachPairAlone() {
        CHECK.sentence("A pair of depths is barred, or is not: whether it was");
        for (int pair = 0; pair < 64; pair++) {
            MasterKeys x = new MasterKeys(2, 8);
            x.bar(pair / 8, pair % 8, true);
            for (int other = 0; other < 64; other++) {
                CHECK.due("bar(" + other / 8 + ", " + other % 8 + ") behind " + pair / 8 + " " + pair % 8,
                        x.bar(other / 8, other % 8, false), other == pair);
            }
        }
    }

    private static void barOfAllPairsLeavesNoRow() {
        CHECK.sentence("no pair of depths .. that is BARRED stands at neighbouring pins");
        for (int depths = 2; depths <= 8; depths++) {
            MasterKeys x = Check.plan(6, depths, 1, 0);
            for (int pair = 0; pair < depths * depths; pair++) {
                x.bar(pair / depths, pair % depths, true);
            }
            CHECK.due("run", x.run(200000), 0);
            CHECK.due("tries", x.tries(), depths + depths * depths);
            x.bar(depths - 1, depths - 1, false);
            CHECK.due("run with one pair", x.run(200000), 1);
            CHECK.due("the last depth at each pin", x.cut(0, 0) + x.cut(0, 5), 2 * (depths - 1));
            CHECK.due("no other row", x.left(), 0);
        }
    }

    private static void topIsNotOutOfOneToEight() {
        CHECK.sentence("TOP .. Illegal argument: it is not 1 .. 8");
        MasterKeys x = new MasterKeys(2, 8);
        x.top(4);
        for (int most : Edges.outside(1, 8)) {
            CHECK.illegalArgument("top(" + most + ")", () -> x.top(most));
        }
        CHECK.illegalArgument("top(-1)", () -> x.top(-1));
        CHECK.due("TOP behind the refused ones", x.top(4), 4);
    }

    private static void topIsWithinOneToEight() {
        CHECK.sentence("TOP: what it was");
        for (int depths = 2; depths <= 8; depths++) {
            // TOP is 1 .. 8 whatever depths there are
            MasterKeys x = new MasterKeys(2, depths);
            int was = 8;
            for (int most : Edges.inside(1, 8)) {
                CHECK.due("top(" + most + ")", x.top(most), was);
                was = most;
            }
        }
    }

    private static void topBindsAtItsBounds() {
        CHECK.sentence("with no more than TOP depths at a pin of a door");
        for (int top = 1; top <= 8; top++) {
            CHECK.due("TOP " + top + ", as many keys", keysOfOneDoor(top, top), 1);
            if (top > 1) {
                CHECK.due("TOP " + top + ", a key fewer", keysOfOneDoor(top, top - 1), 1);
            }
            if (top < 8) {
                // to look at all rows for seven and more keys needs more than 200000 tries
                CHECK.due("TOP " + top + ", a key more", keysOfOneDoor(top, top + 1), top < 6 ? 0 : 2);
            }
        }
    }

    /** With STEP 0 each key has one depth, another for each key, and the door holds all of them. */
    private static int keysOfOneDoor(int top, int keys) {
        MasterKeys x = Check.plan(2, keys, keys, 1);
        x.step(0);
        x.top(top);
        for (int key = 0; key < keys; key++) {
            x.must(key, 0, true);
        }
        return x.run(200000);
    }
}
