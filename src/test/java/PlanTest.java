/** Promises 10 to 13: cut, holds, fits, wrong. */
public final class PlanTest {
    private static final Check CHECK = new Check();

    public static void main(String[] args) {
        nothingWithoutPlan();
        cutsOfThePlan();
        depthsThatDoorsHold();
        keysThatFit();
        nothingIsWrongInAPlan();
        strangersAreRefused(master(false));
        strangersAreRefused(master(true));
        CHECK.end();
    }

    /** Three pins, three depths: key 0 for door 0, key 1 for door 1, key 2 for both, no key for door 2. */
    private static MasterKeys master(boolean searched) {
        MasterKeys x = Check.plan(3, 3, 3, 3);
        x.must(0, 0, true);
        x.must(1, 1, true);
        x.must(2, 0, true);
        x.must(2, 1, true);
        if (searched) {
            x.run(200000);
        }
        return x;
    }

    private static void nothingWithoutPlan() {
        MasterKeys x = master(false);
        for (int key = 0; key < 3; key++) {
            for (int i = 0; i < 3; i++) {
                CHECK.due("10: cut without a plan", x.cut(key, i), MasterKeys.NONE);
                CHECK.due("11: holds without a plan", x.holds(key, i, 0), false);
                CHECK.due("12: fits without a plan", x.fits(key, i), false);
            }
        }
        CHECK.due("13: wrong without a plan", x.wrong(), MasterKeys.NONE);
    }

    private static void cutsOfThePlan() {
        MasterKeys x = master(true);
        String[] want = {"000", "001", "002"};
        for (int key = 0; key < 3; key++) {
            CHECK.due("10: cuts of key " + key, Check.cuts(x, key, 3), want[key]);
        }
    }

    private static void depthsThatDoorsHold() {
        MasterKeys x = master(true);
        int[][] want = {{1, 1, 0b101}, {1, 1, 0b110}, {0, 0, 0}};
        for (int door = 0; door < 3; door++) {
            for (int pin = 0; pin < 3; pin++) {
                for (int depth = 0; depth < 3; depth++) {
                    CHECK.due("11: holds(" + door + ", " + pin + ", " + depth + ")",
                            x.holds(door, pin, depth), (want[door][pin] >> depth & 1) != 0);
                }
            }
        }
    }

    private static void keysThatFit() {
        MasterKeys x = master(true);
        int[] want = {0b001, 0b010, 0b011};
        for (int key = 0; key < 3; key++) {
            for (int door = 0; door < 3; door++) {
                CHECK.due("12: fits(" + key + ", " + door + ")",
                        x.fits(key, door), (want[key] >> door & 1) != 0);
            }
        }
    }

    private static void nothingIsWrongInAPlan() {
        MasterKeys x = master(true);
        CHECK.due("13: wrong", x.wrong(), 0);
        x.add(0);
        CHECK.due("13: wrong behind a later key", x.wrong(), 0);
        x.must(0, 2, true);
        CHECK.due("13: wrong without a plan", x.wrong(), MasterKeys.NONE);
        x.run(200000);
        CHECK.due("13: wrong in the next plan", x.wrong(), 0);
    }

    private static void strangersAreRefused(MasterKeys x) {
        int[] behind = {3, -1, 8, Integer.MIN_VALUE, Integer.MAX_VALUE};
        for (int no : behind) {
            CHECK.illegalArgument("10: cut(" + no + ", 0)", () -> x.cut(no, 0));
            CHECK.illegalArgument("10: cut(0, " + no + ")", () -> x.cut(0, no));
            CHECK.illegalArgument("11: holds(" + no + ", 0, 0)", () -> x.holds(no, 0, 0));
            CHECK.illegalArgument("11: holds(0, " + no + ", 0)", () -> x.holds(0, no, 0));
            CHECK.illegalArgument("11: holds(0, 0, " + no + ")", () -> x.holds(0, 0, no));
            CHECK.illegalArgument("12: fits(" + no + ", 0)", () -> x.fits(no, 0));
            CHECK.illegalArgument("12: fits(0, " + no + ")", () -> x.fits(0, no));
        }
    }
}
