/** The bounds that promises 10 to 13 name. */
public final class PlanEdgesTest {
    private static final Check CHECK = new Check();

    public static void main(String[] args) {
        cutKnowsTheKeysAndPinsThatThereAre();
        holdsKnowsTheDoorsPinsAndDepthsThatThereAre();
        fitsKnowsTheKeysAndDoorsThatThereAre();
        cutIsNoneWithoutAPlan();
        holdsIsFalseWithoutAPlan();
        fitsIsFalseWithoutAPlan();
        wrongIsNoneWithoutAPlan();
        cutAtItsBounds();
        holdsAtItsBounds();
        wrongWithoutDoors();
        wrongOfEightKeysAndSixDoors();
        CHECK.end();
    }

    private static void cutKnowsTheKeysAndPinsThatThereAre() {
        CHECK.sentence("A key's cut at a pin .. Illegal argument");
        for (int pins = 2; pins <= 6; pins++) {
            for (int keys = 0; keys <= 8; keys++) {
                cutKnows(Check.plan(pins, 8, keys, 0), keys, pins);
                if (keys > 0) {
                    cutKnows(found(pins, 8, keys, 0), keys, pins);
                }
            }
        }
    }

    private static void cutKnows(MasterKeys x, int keys, int pins) {
        for (int key : Edges.inside(0, keys - 1)) {
            for (int pin : Edges.inside(0, pins - 1)) {
                CHECK.noException("cut(" + key + ", " + pin + ")", () -> x.cut(key, pin));
            }
            for (int pin : Edges.outside(0, pins - 1)) {
                CHECK.illegalArgument("cut(" + key + ", " + pin + ")", () -> x.cut(key, pin));
            }
        }
        for (int key : Edges.outside(0, keys - 1)) {
            CHECK.illegalArgument("cut(" + key + ", 0)", () -> x.cut(key, 0));
            CHECK.illegalArgument("cut(" + key + ", " + (pins - 1) + ")", () -> x.cut(key, pins - 1));
            for (int pin : Edges.outside(0, pins - 1)) {
                CHECK.illegalArgument("cut(" + key + ", " + pin + ")", () -> x.cut(key, pin));
            }
        }
    }

    private static void holdsKnowsTheDoorsPinsAndDepthsThatThereAre() {
        CHECK.sentence("Whether a door holds a depth at a pin .. Illegal argument: no such depth, either");
        for (int doors = 0; doors <= 6; doors++) {
            for (int pins = 2; pins <= 6; pins++) {
                for (int depths = 2; depths <= 8; depths++) {
                    holdsKnows(Check.plan(pins, depths, 1, doors), doors, pins, depths);
                    holdsKnows(found(pins, depths, 1, doors), doors, pins, depths);
                }
            }
        }
    }

    private static void holdsKnows(MasterKeys x, int doors, int pins, int depths) {
        for (int door : Edges.inside(0, doors - 1)) {
            CHECK.noException("holds at the least", () -> x.holds(door, 0, 0));
            CHECK.noException("holds at the greatest", () -> x.holds(door, pins - 1, depths - 1));
            for (int pin : Edges.outside(0, pins - 1)) {
                CHECK.illegalArgument("holds(" + door + ", " + pin + ", 0)", () -> x.holds(door, pin, 0));
            }
            for (int depth : Edges.outside(0, depths - 1)) {
                CHECK.illegalArgument("holds(" + door + ", 0, " + depth + ")", () -> x.holds(door, 0, depth));
            }
        }
        for (int door : Edges.outside(0, doors - 1)) {
            CHECK.illegalArgument("holds(" + door + ", 0, 0)", () -> x.holds(door, 0, 0));
            for (int pin : Edges.outside(0, pins - 1)) {
                for (int depth : Edges.outside(0, depths - 1)) {
                    CHECK.illegalArgument("holds(" + door + ", " + pin + ", " + depth + ")",
                            () -> x.holds(door, pin, depth));
                }
            }
        }
    }

    private static void fitsKnowsTheKeysAndDoorsThatThereAre() {
        CHECK.sentence("Whether a key fits a door .. Illegal argument");
        for (int keys = 0; keys <= 8; keys++) {
            for (int doors = 0; doors <= 6; doors++) {
                fitsKnows(Check.plan(2, 8, keys, doors), keys, doors);
                if (keys > 0) {
                    fitsKnows(found(2, 8, keys, doors), keys, doors);
                }
            }
        }
    }

    private static void fitsKnows(MasterKeys x, int keys, int doors) {
        for (int key : Edges.inside(0, keys - 1)) {
            for (int door : Edges.inside(0, doors - 1)) {
                CHECK.noException("fits(" + key + ", " + door + ")", () -> x.fits(key, door));
            }
            for (int door : Edges.outside(0, doors - 1)) {
                CHECK.illegalArgument("fits(" + key + ", " + door + ")", () -> x.fits(key, door));
            }
        }
        for (int key : Edges.outside(0, keys - 1)) {
            for (int door : Edges.inside(0, doors - 1)) {
                CHECK.illegalArgument("fits(" + key + ", " + door + ")", () -> x.fits(key, door));
            }
            for (int door : Edges.outside(0, doors - 1)) {
                CHECK.illegalArgument("fits(" + key + ", " + door + ")", () -> x.fits(key, door));
            }
        }
    }

    /** So many keys and doors, with a plan in which no key must open a door. */
    private static MasterKeys found(int pins, int depths, int keys, int doors) {
        MasterKeys x = Check.plan(pins, depths, keys, doors);
        CHECK.due("a plan for " + keys + " keys", x.run(200000), 1);
        return x;
    }

    /** Objects of two keys and a door without a plan: never searched, in vain, too few tries, lost. */
    private static MasterKeys[] withoutPlan() {
        MasterKeys never = twoKeysOfADoor();
        MasterKeys vain = twoKeysOfADoor();
        vain.top(1);
        CHECK.due("a search in vain", vain.run(200000), 0);
        MasterKeys few = twoKeysOfADoor();
        CHECK.due("a search with a try too few", few.run(4), 2);
        MasterKeys lost = twoKeysOfADoor();
        CHECK.due("a search that finds", lost.run(5), 1);
        lost.must(0, 0, true);
        return new MasterKeys[] {never, vain, few, lost};
    }

    private static MasterKeys twoKeysOfADoor() {
        MasterKeys x = Check.plan(2, 2, 2, 1);
        x.must(0, 0, true);
        x.must(1, 0, true);
        return x;
    }

    private static void cutIsNoneWithoutAPlan() {
        CHECK.sentence("A key's cut at a pin; NONE if no plan is found");
        for (MasterKeys x : withoutPlan()) {
            for (int key = 0; key < 2; key++) {
                CHECK.due("cut(" + key + ", 0)", x.cut(key, 0), MasterKeys.NONE);
                CHECK.due("cut(" + key + ", 1)", x.cut(key, 1), MasterKeys.NONE);
            }
        }
    }

    private static void holdsIsFalseWithoutAPlan() {
        CHECK.sentence("Whether a door holds a depth at a pin; false if no plan is found");
        for (MasterKeys x : withoutPlan()) {
            for (int pin = 0; pin < 2; pin++) {
                CHECK.due("holds(0, " + pin + ", 0)", x.holds(0, pin, 0), false);
                CHECK.due("holds(0, " + pin + ", 1)", x.holds(0, pin, 1), false);
            }
        }
    }

    private static void fitsIsFalseWithoutAPlan() {
        CHECK.sentence("Whether a key fits a door; false if no plan is found");
        for (MasterKeys x : withoutPlan()) {
            CHECK.due("fits(0, 0)", x.fits(0, 0), false);
            CHECK.due("fits(1, 0)", x.fits(1, 0), false);
        }
    }

    private static void wrongIsNoneWithoutAPlan() {
        CHECK.sentence("wrong .. NONE if no plan is found");
        CHECK.due("wrong() of a new object", new MasterKeys(2, 2).wrong(), MasterKeys.NONE);
        for (MasterKeys x : withoutPlan()) {
            CHECK.due("wrong()", x.wrong(), MasterKeys.NONE);
        }
    }

    private static void cutAtItsBounds() {
        CHECK.sentence("A key's cut at a pin");
        // the last depth at the last pin of the last key: rows 00, 01, .. 07
        MasterKeys x = found(2, 8, 8, 0);
        for (int key = 0; key < 8; key++) {
            CHECK.due("cuts of key " + key, Check.cuts(x, key, 2), "0" + key);
        }
        MasterKeys last = Check.plan(6, 8, 1, 0);
        for (int depth = 0; depth < 7; depth++) {
            for (int second = 0; second < 8; second++) {
                last.bar(depth, second, true);
            }
            last.bar(7, depth, true);
        }
        CHECK.due("run", last.run(200000), 1);
        CHECK.due("cuts where 7 alone may stand by 7", Check.cuts(last, 0, 6), "777777");
    }

    private static void holdsAtItsBounds() {
        CHECK.sentence("A door HOLDS at a pin the depths that the keys which must open it have there");
        MasterKeys x = Check.plan(6, 8, 8, 6);
        for (int key = 0; key < 8; key++) {
            x.must(key, 5, true);
        }
        CHECK.due("run", x.run(200000), 1);
        for (int depth = 0; depth < 8; depth++) {
            CHECK.due("holds(5, 5, " + depth + ")", x.holds(5, 5, depth), true);
            CHECK.due("holds(5, 4, " + depth + ")", x.holds(5, 4, depth), depth == 0);
            CHECK.due("holds(5, 0, " + depth + ")", x.holds(5, 0, depth), depth == 0);
            CHECK.due("holds(4, 5, " + depth + ")", x.holds(4, 5, depth), false);
        }
    }

    private static void wrongWithoutDoors() {
        CHECK.sentence("How many keys and doors there are for which fits() is not what must() was told");
        for (int keys = 1; keys <= 8; keys++) {
            CHECK.due("wrong() with " + keys + " keys and no doors", found(2, 8, keys, 0).wrong(), 0);
            CHECK.due("wrong() with " + keys + " keys and six doors", found(2, 8, keys, 6).wrong(), 0);
        }
    }

    private static void wrongOfEightKeysAndSixDoors() {
        CHECK.sentence("How many keys and doors there are for which fits() is not what must() was told");
        MasterKeys x = Check.plan(2, 8, 8, 6);
        for (int key = 0; key < 8; key++) {
            for (int door = 0; door < 6; door++) {
                x.must(key, door, true);
            }
        }
        CHECK.due("run", x.run(200000), 1);
        CHECK.due("wrong() where all keys open all doors", x.wrong(), 0);
    }
}
