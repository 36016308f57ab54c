/** The bounds that promises 14 to 16 name. */
public final class LaterKeysEdgesTest {
    private static final Check CHECK = new Check();

    public static void main(String[] args) {
        leftNeedsAPlan();
        leftAtItsLeast();
        leftAtItsGreatest();
        leftLeavesOutRowsThatFitADoor();
        addKnowsTheDoorsThatThereAre();
        addNeedsAPlan();
        addNeedsRoom();
        addNamesTheArgumentFirst();
        addAnswersNoneWithoutSuchCuts();
        addThatAnswersNoneChangesNothing();
        addTakesLawfulCuts();
        addTakesNoOtherKeysCuts();
        addTakesTheLeastCutsTheFirstPinsFirst();
        addFitsJustTheseDoors();
        addOfAllSixDoors();
        addLeavesTheDoorsAsTheyAre();
        addedKeyMustOpenItsDoors();
        addKeepsThePlan();
        heirsKnowsTheKeysThatThereAre();
        heirsNeedsAPlan();
        heirsNamesTheArgumentFirst();
        heirsOfAllKeys();
        heirsFitEachDoor();
        heirsOfAKeyWithoutDoors();
        CHECK.end();
    }

    /** Objects of two keys and a door without a plan: never searched, in vain, too few tries, lost. */
    private static MasterKeys[] withoutPlan() {
        MasterKeys[] all = new MasterKeys[4];
        for (int i = 0; i < all.length; i++) {
            all[i] = Check.plan(2, 2, 2, 1);
            all[i].must(0, 0, true);
            all[i].must(1, 0, true);
        }
        all[1].top(1);
        CHECK.due("a search in vain", all[1].run(200000), 0);
        CHECK.due("a search with a try too few", all[2].run(4), 2);
        CHECK.due("a search that finds", all[3].run(5), 1);
        all[3].top(8);
        return all;
    }

    /** Two pins: keys 00, 01 and 10 must open all of the doors, which hold 0 and 1 at both pins. */
    private static MasterKeys threeKeys(int depths, int doors) {
        MasterKeys x = Check.plan(2, depths, 3, doors);
        for (int key = 0; key < 3; key++) {
            for (int door = 0; door < doors; door++) {
                x.must(key, door, true);
            }
        }
        x.top(2);
        CHECK.due("a plan for three keys", x.run(200000), 1);
        CHECK.due("the third key", Check.cuts(x, 2, 2), "10");
        return x;
    }

    private static MasterKeys found(int pins, int depths, int keys, int doors) {
        MasterKeys x = Check.plan(pins, depths, keys, doors);
        CHECK.due("a plan for " + keys + " keys", x.run(200000), 1);
        return x;
    }

    private static void leftNeedsAPlan() {
        CHECK.sentence("left .. Illegal state: no plan is found");
        CHECK.illegalState("left() of a new object", () -> new MasterKeys(2, 2).left());
        for (MasterKeys x : withoutPlan()) {
            CHECK.illegalState("left()", x::left);
        }
    }

    private static void leftAtItsLeast() {
        CHECK.sentence("How many rows of cuts are lawful, no key's");
        for (int keys = 1; keys <= 4; keys++) {
            CHECK.due("left() with " + keys + " of four rows taken", found(2, 2, keys, 0).left(), 4 - keys);
        }
        MasterKeys x = Check.plan(6, 2, 1, 0);
        x.step(0);
        x.bar(1, 1, true);
        CHECK.due("run where one row is lawful", x.run(6), 1);
        CHECK.due("left() where one row is lawful", x.left(), 0);
    }

    private static void leftAtItsGreatest() {
        CHECK.sentence("How many rows of cuts are lawful, no key's");
        for (int keys = 1; keys <= 8; keys++) {
            CHECK.due("left() with " + keys + " keys", found(6, 8, keys, 0).left(), 262144 - keys);
            CHECK.due("left() with " + keys + " keys and six doors", found(6, 8, keys, 6).left(), 262144 - keys);
        }
    }

    private static void leftLeavesOutRowsThatFitADoor() {
        CHECK.sentence("How many rows of cuts .. fit no door");
        for (int doors = 1; doors <= 6; doors++) {
            CHECK.due("left() where all rows fit", threeKeys(2, doors).left(), 0);
            CHECK.due("left() where four rows fit", threeKeys(3, doors).left(), 5);
        }
        // door 5 holds 0 and 1 at the last of six pins, and 0 at the others
        MasterKeys x = Check.plan(6, 8, 3, 6);
        x.must(0, 5, true);
        x.must(1, 5, true);
        CHECK.due("run", x.run(200000), 1);
        CHECK.due("left() with keys of the last door", x.left(), 262144 - 3);
    }

    private static void addKnowsTheDoorsThatThereAre() {
        CHECK.sentence("add .. Illegal argument: no such doors");
        for (int doors = 0; doors <= 6; doors++) {
            int all = (1 << doors) - 1;
            for (int set : Edges.inside(0, all)) {
                MasterKeys x = found(2, 8, 1, doors);
                CHECK.noException("add(" + set + ") with " + doors + " doors", () -> x.add(set));
            }
            MasterKeys x = found(2, 8, 1, doors);
            for (int set : Edges.outside(0, all)) {
                CHECK.illegalArgument("add(" + set + ") with " + doors + " doors", () -> x.add(set));
            }
            for (int bit = doors; bit < 32; bit++) {
                int set = 1 << bit;
                CHECK.illegalArgument("add(" + set + ") with " + doors + " doors", () -> x.add(set));
                CHECK.illegalArgument("add(" + (set | all) + ") with " + doors + " doors", () -> x.add(set | all));
            }
        }
    }

    private static void addNeedsAPlan() {
        CHECK.sentence("add .. illegal state: no plan is found");
        CHECK.illegalState("add(0) of a new object", () -> new MasterKeys(2, 2).add(0));
        for (MasterKeys x : withoutPlan()) {
            CHECK.illegalState("add(0)", () -> x.add(0));
            CHECK.illegalState("add(1)", () -> x.add(1));
            CHECK.due("the next key", x.key(), 2);
        }
    }

    private static void addNeedsRoom() {
        CHECK.sentence("add .. illegal state: .. or there are 8 keys");
        for (int keys = 1; keys <= 8; keys++) {
            MasterKeys x = found(2, 8, keys, 1);
            for (int later = keys; later < 8; later++) {
                CHECK.due("add(0) with " + later + " keys", x.add(0), later);
            }
            CHECK.illegalState("add(0) with 8 keys", () -> x.add(0));
            // no cuts fit the door, but there is no room for a key either
            CHECK.illegalState("add(1) with 8 keys", () -> x.add(1));
            CHECK.due("the plan stays", x.wrong(), 0);
        }
        MasterKeys lost = Check.plan(2, 8, 8, 1);
        CHECK.illegalState("add(0) with 8 keys and no plan", () -> lost.add(0));
    }

    private static void addNamesTheArgumentFirst() {
        CHECK.sentence("Of several exceptions the one named first is thrown");
        for (int set : Edges.outside(0, 1)) {
            for (MasterKeys x : withoutPlan()) {
                CHECK.illegalArgument("add(" + set + ") without a plan", () -> x.add(set));
            }
            MasterKeys full = found(2, 8, 8, 1);
            CHECK.illegalArgument("add(" + set + ") with 8 keys", () -> full.add(set));
            full.door();
            CHECK.illegalArgument("add(4) with 8 keys and no plan", () -> full.add(4));
        }
        CHECK.illegalArgument("add(1) of a new object", () -> new MasterKeys(2, 2).add(1));
    }

    private static void addAnswersNoneWithoutSuchCuts() {
        CHECK.sentence("add .. NONE if there are no such cuts");
        for (int keys = 1; keys <= 4; keys++) {
            MasterKeys x = found(2, 2, keys, 0);
            for (int later = keys; later < 4; later++) {
                CHECK.due("add(0) with " + later + " of four rows taken", x.add(0), later);
            }
            CHECK.due("add(0) with four of four rows taken", x.add(0), MasterKeys.NONE);
            CHECK.due("add(0) again", x.add(0), MasterKeys.NONE);
        }
        MasterKeys fitted = threeKeys(2, 1);
        CHECK.due("add(0) where all rows fit", fitted.add(0), MasterKeys.NONE);
        CHECK.due("add(1) with one row that fits", fitted.add(1), 3);
        CHECK.due("add(1) with none", fitted.add(1), MasterKeys.NONE);
    }

    private static void addThatAnswersNoneChangesNothing() {
        CHECK.sentence("NONE if there are no such cuts .. the plan stays found");
        MasterKeys x = threeKeys(3, 2);
        MasterKeys twin = threeKeys(3, 2);
        for (int set : new int[] {1, 2, 1}) {
            CHECK.due("add(" + set + ")", x.add(set), MasterKeys.NONE);
            CHECK.due("what is seen behind it", Seen.asked(x, 2, 3), Seen.asked(twin, 2, 3));
        }
        CHECK.due("the next key", x.add(3), 3);
        CHECK.due("the twin's next key", twin.add(3), 3);
        CHECK.due("what is seen at last", Seen.all(x, 2, 3), Seen.all(twin, 2, 3));
    }

    private static void addTakesLawfulCuts() {
        CHECK.sentence("Its cuts are the least ones, lawful");
        MasterKeys step = Check.plan(2, 2, 1, 0);
        step.step(0);
        step.run(10);
        CHECK.due("add(0) with STEP 0", step.add(0), 1);
        CHECK.due("its cuts", Check.cuts(step, 1, 2), "11");
        CHECK.due("add(0) where 01 and 10 are left, unlawful", step.add(0), MasterKeys.NONE);
        MasterKeys barred = Check.plan(2, 2, 1, 0);
        barred.bar(0, 1, true);
        barred.run(10);
        CHECK.due("add(0) with 01 barred", barred.add(0), 1);
        CHECK.due("its cuts", Check.cuts(barred, 1, 2), "10");
        CHECK.due("add(0) once more", barred.add(0), 2);
        CHECK.due("its cuts", Check.cuts(barred, 2, 2), "11");
        CHECK.due("add(0) where 01 is left", barred.add(0), MasterKeys.NONE);
    }

    private static void addTakesNoOtherKeysCuts() {
        CHECK.sentence("lawful and no other key's");
        MasterKeys x = found(2, 8, 1, 0);
        for (int later = 1; later < 8; later++) {
            CHECK.due("add(0)", x.add(0), later);
            CHECK.due("its cuts", Check.cuts(x, later, 2), "0" + later);
        }
    }

    private static void addTakesTheLeastCutsTheFirstPinsFirst() {
        CHECK.sentence("the least ones .. pin by pin (the first pin's first)");
        for (int pins = 2; pins <= 6; pins++) {
            MasterKeys x = found(pins, 2, 1, 0);
            x.add(0);
            CHECK.due("the least cuts but the key's", Check.cuts(x, 1, pins), "000001".substring(6 - pins));
            x.add(0);
            CHECK.due("the next ones", Check.cuts(x, 2, pins), "000010".substring(6 - pins));
        }
        // 7 stands by 7 alone, and no other depth by any: 777777 is the only row but the barred ones
        MasterKeys last = Check.plan(6, 8, 1, 0);
        last.step(0);
        for (int depth = 1; depth < 7; depth++) {
            last.bar(depth, depth, true);
        }
        last.run(100);
        CHECK.due("add(0) with one more row", last.add(0), 1);
        CHECK.due("the greatest cuts", Check.cuts(last, 1, 6), "777777");
        CHECK.due("add(0) with none", last.add(0), MasterKeys.NONE);
    }

    private static void addFitsJustTheseDoors() {
        CHECK.sentence("A later key, that fits just these doors (2 to the power of each, together)");
        for (int doors = 2; doors <= 6; doors++) {
            int all = (1 << doors) - 1;
            for (int set = 1; set < all; set++) {
                // 11 fits all of the doors: for fewer of them there are no cuts
                CHECK.due("add(" + set + ") of " + doors + " like doors", threeKeys(3, doors).add(set), MasterKeys.NONE);
            }
            CHECK.due("add(0)", threeKeys(3, doors).add(0), 3);
            CHECK.due("add(" + all + ")", threeKeys(3, doors).add(all), 3);
        }
    }

    private static void addOfAllSixDoors() {
        CHECK.sentence("2 to the power of each, together");
        for (int door = 0; door < 6; door++) {
            MasterKeys x = Check.plan(2, 3, 3, 6);
            for (int key = 0; key < 3; key++) {
                x.must(key, door, true);
            }
            x.top(2);
            x.run(200000);
            for (int other = 0; other < 6; other++) {
                if (other != door) {
                    CHECK.due("add of door " + other, x.add(1 << other), MasterKeys.NONE);
                }
            }
            CHECK.due("add of door " + door, x.add(1 << door), 3);
            CHECK.due("its cuts", Check.cuts(x, 3, 2), "11");
            for (int other = 0; other < 6; other++) {
                CHECK.due("fits(3, " + other + ")", x.fits(3, other), other == door);
            }
        }
    }

    private static void addLeavesTheDoorsAsTheyAre() {
        CHECK.sentence("that fits just these doors .. as they are");
        MasterKeys x = threeKeys(3, 1);
        x.add(1);
        x.add(0);
        for (int pin = 0; pin < 2; pin++) {
            for (int depth = 0; depth < 3; depth++) {
                CHECK.due("holds(0, " + pin + ", " + depth + ")", x.holds(0, pin, depth), depth < 2);
            }
        }
        for (int key = 0; key < 5; key++) {
            CHECK.due("fits(" + key + ", 0)", x.fits(key, 0), key < 4);
        }
    }

    private static void addedKeyMustOpenItsDoors() {
        CHECK.sentence("it must open these doors then");
        MasterKeys x = threeKeys(3, 6);
        CHECK.due("add(63)", x.add(63), 3);
        CHECK.due("add(0)", x.add(0), 4);
        CHECK.due("wrong()", x.wrong(), 0);
        for (int door = 0; door < 6; door++) {
            CHECK.due("must(3, " + door + ")", x.must(3, door, true), true);
            CHECK.due("must(4, " + door + ")", x.must(4, door, false), false);
        }
    }

    private static void addKeepsThePlan() {
        CHECK.sentence("and the plan stays found");
        MasterKeys x = threeKeys(3, 1);
        int tries = x.tries();
        for (int later = 3; later < 8; later++) {
            CHECK.due("add(0)", x.add(0), later);
            CHECK.due("wrong() behind it", x.wrong(), 0);
            CHECK.due("left() behind it", x.left(), 7 - later);
            CHECK.due("tries() behind it", x.tries(), tries);
            CHECK.due("the first cuts behind it", Check.cuts(x, 0, 2), "00");
        }
    }

    private static void heirsKnowsTheKeysThatThereAre() {
        CHECK.sentence("heirs .. Illegal argument");
        for (int keys = 1; keys <= 8; keys++) {
            MasterKeys x = found(2, 8, keys, 1);
            for (int key : Edges.inside(0, keys - 1)) {
                CHECK.noException("heirs(" + key + ") of " + keys, () -> x.heirs(key));
            }
            for (int key : Edges.outside(0, keys - 1)) {
                CHECK.illegalArgument("heirs(" + key + ") of " + keys, () -> x.heirs(key));
            }
        }
        MasterKeys x = found(2, 8, 1, 0);
        CHECK.illegalArgument("heirs(1)", () -> x.heirs(1));
        x.add(0);
        CHECK.due("heirs(1) behind add(0)", x.heirs(1), 1);
    }

    private static void heirsNeedsAPlan() {
        CHECK.sentence("heirs .. illegal state: no plan is found");
        for (MasterKeys x : withoutPlan()) {
            CHECK.illegalState("heirs(0)", () -> x.heirs(0));
            CHECK.illegalState("heirs(1)", () -> x.heirs(1));
        }
    }

    private static void heirsNamesTheArgumentFirst() {
        CHECK.sentence("Of several exceptions the one named first is thrown");
        for (int key : Edges.outside(0, 1)) {
            for (MasterKeys x : withoutPlan()) {
                CHECK.illegalArgument("heirs(" + key + ") without a plan", () -> x.heirs(key));
            }
        }
        for (int key : Edges.outside(0, -1)) {
            CHECK.illegalArgument("heirs(" + key + ") without keys", () -> new MasterKeys(2, 2).heirs(key));
        }
    }

    private static void heirsOfAllKeys() {
        CHECK.sentence("2 to the power of each key, together (without it)");
        for (int keys = 1; keys <= 8; keys++) {
            MasterKeys x = Check.plan(2, 8, keys, 6);
            for (int key = 0; key < keys; key++) {
                x.must(key, 0, true);
                x.must(key, 5, true);
            }
            x.run(200000);
            for (int key = 0; key < keys; key++) {
                CHECK.due("heirs(" + key + ") of " + keys, x.heirs(key), (1 << keys) - 1 - (1 << key));
            }
        }
    }

    private static void heirsFitEachDoor() {
        CHECK.sentence("those that fit each door that the lost key fits are as good as it");
        // key 0 fits all doors, key n all but door n - 1, key 7 none
        MasterKeys x = Check.plan(6, 8, 8, 6);
        for (int key = 0; key < 7; key++) {
            for (int door = 0; door < 6; door++) {
                x.must(key, door, door != key - 1);
            }
        }
        CHECK.due("run", x.run(200000), 1);
        CHECK.due("heirs of the key of all doors", x.heirs(0), 0);
        for (int key = 1; key < 7; key++) {
            CHECK.due("heirs(" + key + ")", x.heirs(key), 1);
        }
        CHECK.due("heirs of the key of no door", x.heirs(7), 127);
    }

    private static void heirsOfAKeyWithoutDoors() {
        CHECK.sentence("those that fit each door that the lost key fits, if it fits none");
        CHECK.due("heirs of the only key", found(2, 2, 1, 0).heirs(0), 0);
        MasterKeys x = found(2, 8, 8, 0);
        for (int key = 0; key < 8; key++) {
            CHECK.due("heirs(" + key + ") without doors", x.heirs(key), 255 - (1 << key));
        }
    }
}
