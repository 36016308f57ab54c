/** Promises 14 to 16: left, add, heirs. */
public final class LaterKeysTest {
    private static final Check CHECK = new Check();

    public static void main(String[] args) {
        exceptionsWithoutPlan();
        leftCountsLawfulRows();
        leftLeavesOutRowsThatFit();
        addTakesTheLeastRow();
        addFitsJustTheseDoors();
        addKeepsToTheLaw();
        addRefuses();
        addUsesUpTheRows();
        addedKeysAreSearchedFor();
        heirsFitAllThatTheLostKeyFits();
        heirsRefuses();
        CHECK.end();
    }

    private static void exceptionsWithoutPlan() {
        MasterKeys x = Check.plan(3, 3, 2, 2);
        CHECK.illegalState("14: left without a plan", x::left);
        CHECK.illegalState("15: add without a plan", () -> x.add(3));
        CHECK.illegalArgument("15: add of no such doors comes first", () -> x.add(4));
        CHECK.illegalState("16: heirs without a plan", () -> x.heirs(1));
        CHECK.illegalArgument("16: heirs of no such key comes first", () -> x.heirs(2));
    }

    private static void leftCountsLawfulRows() {
        MasterKeys x = Check.plan(6, 8, 1, 0);
        x.run(10);
        CHECK.due("14: all rows but the key's", x.left(), 262143);
        x.step(0);
        x.run(10);
        CHECK.due("14: the even rows but the key's", x.left(), 7);
        x.bar(3, 3, true);
        x.run(10);
        CHECK.due("14: one of them is barred", x.left(), 6);
        MasterKeys y = Check.plan(3, 2, 1, 0);
        y.bar(0, 1, true);
        y.run(10);
        // 000, 100, 110, 111 are lawful
        CHECK.due("14: rows that never rise", y.left(), 3);
    }

    private static void leftLeavesOutRowsThatFit() {
        MasterKeys x = oneDoorOfTwoKeys();
        // 27 rows: 00x with x of 0, 1 fit the door, and are the keys' anyway
        CHECK.due("14: left", x.left(), 25);
        MasterKeys y = doorOfThreeKeys();
        CHECK.due("14: left without a row that fits and is no key's", y.left(), 5);
        y.door();
        y.run(1000);
        CHECK.due("14: a door of no key takes no row", y.left(), 5);
    }

    /** Two pins, three depths: keys 00, 01 and 10 must open the one door, hence 11 fits it too. */
    private static MasterKeys doorOfThreeKeys() {
        MasterKeys x = Check.plan(2, 3, 3, 1);
        x.must(0, 0, true);
        x.must(1, 0, true);
        x.must(2, 0, true);
        x.top(2);
        x.run(1000);
        return x;
    }

    /** Three pins, three depths: both keys must open the one door; they are 000 and 001. */
    private static MasterKeys oneDoorOfTwoKeys() {
        MasterKeys x = Check.plan(3, 3, 2, 1);
        x.must(0, 0, true);
        x.must(1, 0, true);
        x.run(1000);
        return x;
    }

    private static void addTakesTheLeastRow() {
        MasterKeys x = oneDoorOfTwoKeys();
        CHECK.due("15: add(1) without a row", x.add(1), MasterKeys.NONE);
        CHECK.due("15: that made no key", Check.thrownBy(() -> x.cut(2, 0)), "IllegalArgumentException");
        String[] want = {"002", "010", "011", "012", "020", "021"};
        for (int i = 0; i < want.length; i++) {
            CHECK.due("15: add(0)", x.add(0), 2 + i);
            CHECK.due("15: its cuts", Check.cuts(x, 2 + i, 3), want[i]);
            CHECK.due("15: it must open no door", x.fits(2 + i, 0), false);
            CHECK.due("15: rows left", x.left(), 24 - i);
            CHECK.due("15: the plan stays found", x.wrong(), 0);
        }
        CHECK.illegalState("15: add of a ninth key", () -> x.add(0));
        CHECK.illegalArgument("15: no such doors comes before eight keys", () -> x.add(2));
        CHECK.due("15: the plan is there still", Check.cuts(x, 7, 3), "021");
    }

    private static void addFitsJustTheseDoors() {
        MasterKeys x = Check.plan(3, 3, 4, 2);
        x.must(0, 0, true);
        x.must(1, 0, true);
        x.must(2, 0, true);
        x.must(2, 1, true);
        x.must(3, 1, true);
        CHECK.due("15: run", x.run(200000), 1);
        for (int doors = 0; doors < 4; doors++) {
            String least = leastByHand(x, doors);
            int number = x.add(doors);
            if (least.isEmpty()) {
                CHECK.due("15: add(" + doors + ")", number, MasterKeys.NONE);
            } else {
                CHECK.due("15: cuts of add(" + doors + ")", Check.cuts(x, number, 3), least);
                CHECK.due("15: door 0 of add(" + doors + ")", x.fits(number, 0), (doors & 1) != 0);
                CHECK.due("15: door 1 of add(" + doors + ")", x.fits(number, 1), (doors & 2) != 0);
                CHECK.due("15: wrong behind add(" + doors + ")", x.wrong(), 0);
            }
        }
        CHECK.due("15: must was told for a later key",
                x.must(4, 0, false) || x.must(4, 1, false), false);
    }

    /** The least row of three pins and depths for these of two doors, by holds() and cut() alone. */
    private static String leastByHand(MasterKeys x, int doors) {
        for (int row = 0; row < 27; row++) {
            int[] cuts = {row / 9, row / 3 % 3, row % 3};
            String text = "" + cuts[0] + cuts[1] + cuts[2];
            int fitted = 0;
            for (int door = 0; door < 2; door++) {
                if (x.holds(door, 0, cuts[0]) && x.holds(door, 1, cuts[1]) && x.holds(door, 2, cuts[2])) {
                    fitted |= 1 << door;
                }
            }
            boolean taken = false;
            for (int key = 0; key < 8; key++) {
                int number = key;
                taken |= Check.thrownBy(() -> x.cut(number, 0)).equals("nothing")
                        && Check.cuts(x, key, 3).equals(text);
            }
            if (fitted == doors && !taken) {
                return text;
            }
        }
        return "";
    }

    private static void addKeepsToTheLaw() {
        MasterKeys x = Check.plan(3, 3, 1, 0);
        x.step(1);
        x.bar(0, 1, true);
        x.run(100);
        String[] want = {"100", "110", "111", "112", "121", "122", "210"};
        for (int i = 0; i < want.length; i++) {
            CHECK.due("15: lawful add(0)", x.add(0), 1 + i);
            CHECK.due("15: its lawful cuts", Check.cuts(x, 1 + i, 3), want[i]);
        }
    }

    private static void addRefuses() {
        MasterKeys x = oneDoorOfTwoKeys();
        for (int doors : new int[] {-1, 2, 3, 64, Integer.MIN_VALUE, Integer.MAX_VALUE}) {
            CHECK.illegalArgument("15: add(" + doors + ")", () -> x.add(doors));
        }
        MasterKeys six = Check.plan(3, 3, 1, 6);
        six.must(0, 5, true);
        six.run(100);
        CHECK.illegalArgument("15: add(64) with six doors", () -> six.add(64));
        CHECK.due("15: add(63) with six doors", six.add(63), MasterKeys.NONE);
        CHECK.due("15: add(32) with six doors", six.add(32), MasterKeys.NONE);
        CHECK.due("15: add(0) with six doors", six.add(0), 1);
        CHECK.due("15: the plan stays found", six.wrong(), 0);
        MasterKeys widest = Check.plan(6, 8, 1, 1);
        widest.must(0, 0, true);
        widest.run(6);
        CHECK.due("15: add(1) with eight depths", widest.add(1), MasterKeys.NONE);
        CHECK.due("15: add(0) with eight depths", widest.add(0), 1);
        CHECK.due("15: its cuts", Check.cuts(widest, 1, 6), "000001");
    }

    private static void addUsesUpTheRows() {
        MasterKeys x = Check.plan(2, 2, 1, 0);
        x.run(100);
        CHECK.due("15: first", x.add(0), 1);
        CHECK.due("15: second", x.add(0), 2);
        CHECK.due("14: one is left", x.left(), 1);
        CHECK.due("15: third", x.add(0), 3);
        CHECK.due("14: none is left", x.left(), 0);
        CHECK.due("15: fourth", x.add(0), MasterKeys.NONE);
        MasterKeys y = doorOfThreeKeys();
        CHECK.due("15: the row that fits and is no key's", y.add(1), 3);
        CHECK.due("15: its cuts", Check.cuts(y, 3, 2), "11");
        CHECK.due("15: there is no other", y.add(1), MasterKeys.NONE);
        CHECK.due("14: it was not among the left ones", y.left(), 5);
    }

    private static void addedKeysAreSearchedFor() {
        MasterKeys y = doorOfThreeKeys();
        y.add(1);
        y.add(0);
        CHECK.due("15: run with later keys", y.run(1000), 1);
        CHECK.due("15: cuts found for the later key", Check.cuts(y, 3, 2), "11");
        CHECK.due("15: it must open the door", y.must(3, 0, true), true);
        CHECK.due("15: the other must not", y.must(4, 0, true), false);
        CHECK.due("15: the next key", y.key(), 5);
    }

    private static void heirsFitAllThatTheLostKeyFits() {
        MasterKeys x = Check.plan(4, 4, 5, 3);
        int[] opens = {0b001, 0b010, 0b011, 0b111, 0b000};
        for (int key = 0; key < 5; key++) {
            for (int door = 0; door < 3; door++) {
                x.must(key, door, (opens[key] >> door & 1) != 0);
            }
        }
        CHECK.due("16: run", x.run(200000), 1);
        int[] want = {0b01100, 0b01100, 0b01000, 0b00000, 0b01111};
        for (int key = 0; key < 5; key++) {
            CHECK.due("16: heirs(" + key + ")", x.heirs(key), want[key]);
        }
        CHECK.due("16: a later key", x.add(0), 5);
        CHECK.due("16: of two that fit no door each is as good", x.heirs(4), 0b101111);
        CHECK.due("16: of two that fit no door the later one", x.heirs(5), 0b011111);
    }

    private static void heirsRefuses() {
        MasterKeys x = oneDoorOfTwoKeys();
        CHECK.due("16: heirs(0)", x.heirs(0), 2);
        CHECK.due("16: heirs(1)", x.heirs(1), 1);
        for (int key : new int[] {-1, 2, 8, Integer.MIN_VALUE, Integer.MAX_VALUE}) {
            CHECK.illegalArgument("16: heirs(" + key + ")", () -> x.heirs(key));
        }
        MasterKeys alone = Check.plan(2, 2, 1, 0);
        alone.run(10);
        CHECK.due("16: heirs of the only key", alone.heirs(0), 0);
    }
}
