/** Promises 1 to 7: a new object, key, door, must, step, bar, top. */
public final class TellingTest {
    private static final Check CHECK = new Check();

    public static void main(String[] args) {
        newObjectIsEmpty();
        newObjectCountsPinsAndDepthsWithinBounds();
        newObjectHasWidestLaw();
        keysAreNumbered();
        doorsAreNumbered();
        mustTellsWhatItWas();
        mustRefusesStrangers();
        stepTellsWhatItWas();
        barTellsWhatItWas();
        topTellsWhatItWas();
        eachOfThemLosesThePlan();
        throwingOnesKeepThePlan();
        CHECK.end();
    }

    private static void newObjectIsEmpty() {
        MasterKeys x = new MasterKeys(3, 3);
        CHECK.illegalArgument("1: cut(0, 0) without keys", () -> x.cut(0, 0));
        CHECK.illegalArgument("1: holds(0, 0, 0) without doors", () -> x.holds(0, 0, 0));
        CHECK.illegalState("1: run(1) without keys", () -> x.run(1));
        CHECK.due("1: tries()", x.tries(), 0);
        CHECK.due("1: wrong()", x.wrong(), MasterKeys.NONE);
        CHECK.illegalState("1: left()", x::left);
        CHECK.illegalState("1: add(0)", () -> x.add(0));
        CHECK.illegalArgument("1: add(1) without doors", () -> x.add(1));
        CHECK.illegalArgument("1: heirs(0) without keys", () -> x.heirs(0));
        CHECK.due("1: key()", x.key(), 0);
        CHECK.due("1: door()", x.door(), 0);
    }

    private static void newObjectCountsPinsAndDepthsWithinBounds() {
        int[] told = {Integer.MIN_VALUE, -1, 0, 1, 2, 3, 5, 6, 7, 8, 9, Integer.MAX_VALUE};
        for (int pins : told) {
            for (int depths : told) {
                pinsAndDepthsAre(pins, depths, Math.min(6, Math.max(2, pins)), Math.min(8, Math.max(2, depths)));
            }
        }
    }

    private static void pinsAndDepthsAre(int pins, int depths, int wantPins, int wantDepths) {
        MasterKeys x = Check.plan(pins, depths, 1, 1);
        String made = "1: (" + pins + ", " + depths + ") ";
        CHECK.due(made + "last pin", x.cut(0, wantPins - 1), MasterKeys.NONE);
        CHECK.illegalArgument(made + "pin behind the last", () -> x.cut(0, wantPins));
        CHECK.due(made + "last depth", x.holds(0, 0, wantDepths - 1), false);
        CHECK.illegalArgument(made + "depth behind the last", () -> x.holds(0, 0, wantDepths));
        CHECK.due(made + "run", x.run(wantPins), 1);
        int rows = 1;
        for (int pin = 0; pin < wantPins; pin++) {
            rows *= wantDepths;
        }
        CHECK.due(made + "left", x.left(), rows - 1);
    }

    private static void newObjectHasWidestLaw() {
        MasterKeys x = new MasterKeys(6, 8);
        CHECK.due("1: STEP", x.step(3), 7);
        CHECK.due("1: TOP", x.top(3), 8);
        for (int first = 0; first < 8; first++) {
            for (int second = 0; second < 8; second++) {
                CHECK.due("1: bar(" + first + ", " + second + ")", x.bar(first, second, false), false);
            }
        }
    }

    private static void keysAreNumbered() {
        MasterKeys x = new MasterKeys(3, 3);
        for (int key = 0; key < 8; key++) {
            CHECK.due("2: key()", x.key(), key);
        }
        CHECK.illegalState("2: the ninth key()", x::key);
        CHECK.illegalState("2: the ninth key() again", x::key);
        CHECK.due("2: the last key", x.cut(7, 0), MasterKeys.NONE);
        CHECK.illegalArgument("2: no ninth key", () -> x.cut(8, 0));
    }

    private static void doorsAreNumbered() {
        MasterKeys x = new MasterKeys(3, 3);
        for (int door = 0; door < 6; door++) {
            CHECK.due("3: door()", x.door(), door);
        }
        CHECK.illegalState("3: the seventh door()", x::door);
        CHECK.illegalState("3: the seventh door() again", x::door);
        CHECK.due("3: the last door", x.holds(5, 0, 0), false);
        CHECK.illegalArgument("3: no seventh door", () -> x.holds(6, 0, 0));
    }

    private static void mustTellsWhatItWas() {
        MasterKeys x = Check.plan(2, 2, 8, 6);
        for (int key = 0; key < 8; key++) {
            for (int door = 0; door < 6; door++) {
                String pair = "4: must(" + key + ", " + door + ") ";
                CHECK.due(pair + "at first", x.must(key, door, false), false);
                CHECK.due(pair + "before", x.must(key, door, true), false);
                CHECK.due(pair + "behind", x.must(key, door, true), true);
                CHECK.due(pair + "taken back", x.must(key, door, false), true);
                CHECK.due(pair + "at last", x.must(key, door, (key + door) % 2 == 0), false);
            }
        }
        for (int key = 0; key < 8; key++) {
            for (int door = 0; door < 6; door++) {
                CHECK.due("4: must(" + key + ", " + door + ") stays",
                        x.must(key, door, false), (key + door) % 2 == 0);
            }
        }
    }

    private static void mustRefusesStrangers() {
        MasterKeys x = Check.plan(2, 2, 3, 2);
        int[][] strange = {{-1, 0}, {3, 0}, {0, -1}, {0, 2}, {3, 2}, {8, 6},
            {Integer.MAX_VALUE, 0}, {0, Integer.MIN_VALUE}};
        for (int[] pair : strange) {
            CHECK.illegalArgument("4: must(" + pair[0] + ", " + pair[1] + ")", () -> x.must(pair[0], pair[1], true));
        }
    }

    private static void stepTellsWhatItWas() {
        MasterKeys x = Check.plan(2, 4, 1, 0);
        CHECK.due("5: step(0)", x.step(0), 7);
        for (int most = 0; most <= 6; most++) {
            CHECK.due("5: step", x.step(most + 1), most);
        }
        for (int most : new int[] {-1, 8, Integer.MIN_VALUE, Integer.MAX_VALUE}) {
            CHECK.illegalArgument("5: step(" + most + ")", () -> x.step(most));
        }
        CHECK.due("5: step stays", x.step(0), 7);
        // of 16 rows those whose neighbours differ by no more than STEP, without the key's own
        int[] left = {3, 9, 13, 15, 15, 15, 15, 15};
        for (int most = 0; most <= 7; most++) {
            x.step(most);
            x.run(100);
            CHECK.due("5: left() with STEP " + most, x.left(), left[most]);
        }
    }

    private static void barTellsWhatItWas() {
        MasterKeys x = Check.plan(3, 3, 1, 0);
        for (int first = 0; first < 3; first++) {
            for (int second = 0; second < 3; second++) {
                String pair = "6: bar(" + first + ", " + second + ") ";
                CHECK.due(pair + "at first", x.bar(first, second, false), false);
                CHECK.due(pair + "before", x.bar(first, second, true), false);
                CHECK.due(pair + "behind", x.bar(first, second, true), true);
                CHECK.due(pair + "taken back", x.bar(first, second, false), true);
            }
        }
        for (int[] pair : new int[][] {{-1, 0}, {0, -1}, {3, 0}, {0, 3}, {7, 7}, {Integer.MAX_VALUE, 0}}) {
            CHECK.illegalArgument("6: bar(" + pair[0] + ", " + pair[1] + ")", () -> x.bar(pair[0], pair[1], true));
        }
        // the lesser pin's depth is the first of the pair: 0 1 x is barred then, 1 0 x is not
        x.bar(0, 0, true);
        x.bar(0, 1, true);
        CHECK.due("6: run", x.run(100), 1);
        CHECK.due("6: cuts", Check.cuts(x, 0, 3), "020");
        x.bar(0, 2, true);
        CHECK.due("6: run again", x.run(100), 1);
        CHECK.due("6: cuts again", Check.cuts(x, 0, 3), "110");
    }

    private static void topTellsWhatItWas() {
        MasterKeys x = Check.plan(2, 8, 8, 1);
        CHECK.due("7: top(1)", x.top(1), 8);
        for (int most = 1; most <= 7; most++) {
            CHECK.due("7: top", x.top(most + 1), most);
        }
        for (int most : new int[] {0, -1, 9, Integer.MIN_VALUE, Integer.MAX_VALUE}) {
            CHECK.illegalArgument("7: top(" + most + ")", () -> x.top(most));
        }
        CHECK.due("7: top stays", x.top(8), 8);
        for (int key = 0; key < 8; key++) {
            x.must(key, 0, true);
        }
        // eight keys of one door: they need eight depths at one pin, or more than one at both
        String[] last = {"", "", "", "21", "13", "12", "11", "10", "07"};
        for (int most = 3; most <= 8; most++) {
            x.top(most);
            CHECK.due("7: run with TOP " + most, x.run(200000), 1);
            CHECK.due("7: the last key with TOP " + most, Check.cuts(x, 7, 2), last[most]);
        }
    }

    private static void eachOfThemLosesThePlan() {
        String[] names = {"key", "door", "must", "step", "bar", "top"};
        for (int which = 0; which < names.length; which++) {
            MasterKeys x = found();
            CHECK.due("a plan before " + names[which], x.wrong(), 0);
            switch (which) {
                case 0 -> x.key();
                case 1 -> x.door();
                case 2 -> x.must(0, 0, true);
                case 3 -> x.step(7);
                case 4 -> x.bar(0, 0, false);
                default -> x.top(8);
            }
            CHECK.due("no plan behind " + names[which], x.wrong(), MasterKeys.NONE);
            CHECK.due("no cut behind " + names[which], x.cut(0, 0), MasterKeys.NONE);
            CHECK.due("the tries stay behind " + names[which], x.tries(), 7);
        }
    }

    private static void throwingOnesKeepThePlan() {
        MasterKeys x = found();
        for (int key = 2; key < 8; key++) {
            x.add(0);
        }
        CHECK.illegalState("key() of eight", x::key);
        CHECK.illegalArgument("must(8, 0)", () -> x.must(8, 0, true));
        CHECK.illegalArgument("must(0, 1)", () -> x.must(0, 1, true));
        CHECK.illegalArgument("step(8)", () -> x.step(8));
        CHECK.illegalArgument("bar(0, 3)", () -> x.bar(0, 3, true));
        CHECK.illegalArgument("top(0)", () -> x.top(0));
        CHECK.illegalArgument("run(-1)", () -> x.run(-1));
        CHECK.illegalArgument("run(200001)", () -> x.run(200001));
        CHECK.due("the plan stays", x.wrong(), 0);
        CHECK.due("its cuts stay", Check.cuts(x, 1, 3), "001");
        CHECK.due("its tries stay", x.tries(), 7);
        MasterKeys full = Check.plan(3, 3, 1, 6);
        full.run(100);
        CHECK.illegalState("door() of six", full::door);
        CHECK.due("the plan stays with six doors", full.wrong(), 0);
    }

    /** Two keys of three pins, the first of which must open the one door; the plan is found. */
    private static MasterKeys found() {
        MasterKeys x = Check.plan(3, 3, 2, 1);
        x.must(0, 0, true);
        x.run(100);
        return x;
    }
}
