/** The bounds that promise 1 names. */
public final class NewObjectEdgesTest {
    private static final int LEAST = Integer.MIN_VALUE;
    private static final int GREATEST = Integer.MAX_VALUE;
    private static final Check CHECK = new Check();

    public static void main(String[] args) {
        belowTwoPinsCountAsTwo();
        aboveSixPinsCountAsSix();
        pinsBetweenCountAsTold();
        belowTwoDepthsCountAsTwo();
        aboveEightDepthsCountAsEight();
        depthsBetweenCountAsTold();
        pinsAndDepthsHaveBoundsOfTheirOwn();
        noKeys();
        noDoors();
        stepIsSeven();
        topIsEight();
        nothingIsBarred();
        CHECK.end();
    }

    private static void belowTwoPinsCountAsTwo() {
        CHECK.sentence("so many pins (below 2 counts as 2");
        for (int pins : new int[] {LEAST, LEAST + 1, -2, -1, 0, 1, 2}) {
            pinsAre(pins, 2);
        }
    }

    private static void aboveSixPinsCountAsSix() {
        CHECK.sentence("so many pins (.. above 6 as 6)");
        for (int pins : new int[] {6, 7, 8, 256, 258, GREATEST - 1, GREATEST}) {
            pinsAre(pins, 6);
        }
    }

    private static void pinsBetweenCountAsTold() {
        CHECK.sentence("Keys with so many pins");
        for (int pins = 2; pins <= 6; pins++) {
            pinsAre(pins, pins);
        }
    }

    private static void belowTwoDepthsCountAsTwo() {
        CHECK.sentence("and depths (2 .. 8, likewise), below");
        for (int depths : new int[] {LEAST, LEAST + 1, -2, -1, 0, 1, 2}) {
            depthsAre(depths, 2);
        }
    }

    private static void aboveEightDepthsCountAsEight() {
        CHECK.sentence("and depths (2 .. 8, likewise), above");
        for (int depths : new int[] {8, 9, 10, 256, 258, GREATEST - 1, GREATEST}) {
            depthsAre(depths, 8);
        }
    }

    private static void depthsBetweenCountAsTold() {
        CHECK.sentence("and depths (2 .. 8, likewise), between");
        for (int depths = 2; depths <= 8; depths++) {
            depthsAre(depths, depths);
        }
    }

    private static void pinsAre(int told, int want) {
        MasterKeys x = Check.plan(told, 2, 1, 1);
        String made = "pins " + told + ", ";
        CHECK.noException(made + "the last pin", () -> x.cut(0, want - 1));
        CHECK.illegalArgument(made + "a pin behind it", () -> x.cut(0, want));
        CHECK.noException(made + "the last pin of a door", () -> x.holds(0, want - 1, 0));
        CHECK.illegalArgument(made + "a pin of a door behind it", () -> x.holds(0, want, 0));
        CHECK.due(made + "run with a try too few", x.run(want - 1), 2);
        CHECK.due(made + "run", x.run(want), 1);
        CHECK.due(made + "rows left", x.left(), (1 << want) - 1);
    }

    private static void depthsAre(int told, int want) {
        MasterKeys x = Check.plan(2, told, 1, 1);
        String made = "depths " + told + ", ";
        CHECK.noException(made + "the last depth", () -> x.holds(0, 0, want - 1));
        CHECK.illegalArgument(made + "a depth behind it", () -> x.holds(0, 0, want));
        CHECK.noException(made + "the last pair", () -> x.bar(want - 1, want - 1, false));
        CHECK.illegalArgument(made + "a pair behind it", () -> x.bar(want, want, false));
        CHECK.due(made + "run", x.run(2), 1);
        CHECK.due(made + "rows left", x.left(), want * want - 1);
    }

    private static void pinsAndDepthsHaveBoundsOfTheirOwn() {
        CHECK.sentence("below 2 counts as 2, above 6 as 6) and depths (2 .. 8, likewise)");
        int[][] cases = {{7, 7, 6, 7}, {8, 8, 6, 8}, {6, 2, 6, 2}, {2, 6, 2, 6}, {1, 8, 2, 8},
            {LEAST, GREATEST, 2, 8}, {GREATEST, LEAST, 6, 2}, {LEAST, LEAST, 2, 2}, {GREATEST, GREATEST, 6, 8}};
        for (int[] made : cases) {
            MasterKeys x = Check.plan(made[0], made[1], 1, 0);
            String call = "new MasterKeys(" + made[0] + ", " + made[1] + ") ";
            CHECK.due(call + "run", x.run(100), 1);
            CHECK.due(call + "pins", x.tries(), made[2]);
            int rows = 1;
            for (int pin = 0; pin < made[2]; pin++) {
                rows *= made[3];
            }
            CHECK.due(call + "rows left", x.left(), rows - 1);
        }
    }

    private static void noKeys() {
        CHECK.sentence("no keys");
        MasterKeys x = Check.plan(2, 2, 0, 1);
        CHECK.illegalArgument("must(0, 0, true)", () -> x.must(0, 0, true));
        CHECK.illegalArgument("cut(0, 0)", () -> x.cut(0, 0));
        CHECK.illegalArgument("fits(0, 0)", () -> x.fits(0, 0));
        CHECK.illegalArgument("heirs(0)", () -> x.heirs(0));
        CHECK.illegalState("run(1)", () -> x.run(1));
        CHECK.due("key()", x.key(), 0);
    }

    private static void noDoors() {
        CHECK.sentence("no doors");
        MasterKeys x = Check.plan(2, 2, 1, 0);
        CHECK.illegalArgument("must(0, 0, true)", () -> x.must(0, 0, true));
        CHECK.illegalArgument("holds(0, 0, 0)", () -> x.holds(0, 0, 0));
        CHECK.illegalArgument("fits(0, 0)", () -> x.fits(0, 0));
        CHECK.illegalArgument("add(1)", () -> x.add(1));
        CHECK.due("door()", x.door(), 0);
    }

    private static void stepIsSeven() {
        CHECK.sentence("STEP 7");
        MasterKeys x = Check.plan(2, 8, 1, 0);
        CHECK.due("run", x.run(2), 1);
        CHECK.due("rows left, 07 and 70 among them", x.left(), 63);
        CHECK.due("step(0)", x.step(0), 7);
    }

    private static void topIsEight() {
        CHECK.sentence("TOP 8");
        MasterKeys x = Check.plan(2, 8, 8, 1);
        for (int key = 0; key < 8; key++) {
            x.must(key, 0, true);
        }
        CHECK.due("run", x.run(200000), 1);
        CHECK.due("the last of eight depths at a pin", Check.cuts(x, 7, 2), "07");
        CHECK.due("top(1)", x.top(1), 8);
    }

    private static void nothingIsBarred() {
        CHECK.sentence("nothing barred");
        for (int depths = 2; depths <= 8; depths++) {
            MasterKeys x = new MasterKeys(2, depths);
            for (int first = 0; first < depths; first++) {
                for (int second = 0; second < depths; second++) {
                    CHECK.due("bar(" + first + ", " + second + ", true)", x.bar(first, second, true), false);
                }
            }
        }
    }
}
