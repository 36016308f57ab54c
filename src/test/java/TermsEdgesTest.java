import java.util.ArrayList;
import java.util.List;

/** The bounds that the document's terms name, for all promises. */
public final class TermsEdgesTest {
    private static final int PINS = 3;
    private static final int DEPTHS = 3;
    private static final Check CHECK = new Check();

    /** What an object is made like. */
    private enum Made {
        NEW, KEYS_ALONE, DOORS_ALONE, TOLD, FOUND, FOUND_WITH_LATER_KEYS, FULL, IN_VAIN, TOO_FEW_TRIES, LOST
    }

    /** A call on an object that may throw. */
    private interface Act {
        void make(MasterKeys x);
    }

    /** A call that throws, and what. */
    private record Refused(String call, String thrown, Act act) {
    }

    public static void main(String[] args) {
        noneIsMinusOne();
        objectsAreMadeAsMeant();
        callThatThrowsChangesNothing();
        noPlanBehindWhatIsTold();
        thePlanStaysBehindWhatIsAsked();
        doorOfNoKeyHoldsNothing();
        doorOfNoKeyAnyMoreHoldsNothing();
        fitsAtEachPin();
        neighbouringPinsAlone();
        theLesserPinsDepthIsTheFirst();
        barBindsAtEachPairOfPins();
        noTwoKeysAlike();
        otherwiseItMustNot();
        fiveHundredAndTwelveCalls();
        CHECK.end();
    }

    private static void noneIsMinusOne() {
        CHECK.sentence("NONE = -1: There is none");
        CHECK.due("NONE", MasterKeys.NONE, -1);
        CHECK.due("cut(0, 0) without a plan", Check.plan(2, 2, 1, 0).cut(0, 0), -1);
        CHECK.due("wrong() without a plan", new MasterKeys(2, 2).wrong(), -1);
    }

    private static MasterKeys make(Made made) {
        MasterKeys x = new MasterKeys(PINS, DEPTHS);
        switch (made) {
            case NEW -> {
            }
            case KEYS_ALONE -> {
                x.key();
                x.key();
                x.run(100);
            }
            case DOORS_ALONE -> x.door();
            case FULL -> {
                tell(x, 8, 6);
                x.run(200000);
            }
            default -> {
                tell(x, 3, 3);
                end(x, made);
            }
        }
        return x;
    }

    /** Each door is opened by the key of its number, and key 2 opens doors 0 and 1 too. */
    private static void tell(MasterKeys x, int keys, int doors) {
        for (int key = 0; key < keys; key++) {
            x.key();
        }
        for (int door = 0; door < doors; door++) {
            x.door();
            x.must(door, door, true);
        }
        x.must(2, 0, true);
        x.must(2, 1, true);
        x.step(2);
        x.top(3);
        x.bar(1, 2, true);
    }

    private static void end(MasterKeys x, Made made) {
        switch (made) {
            case FOUND -> x.run(200000);
            case FOUND_WITH_LATER_KEYS -> {
                x.run(200000);
                x.add(0);
                x.add(0);
            }
            case IN_VAIN -> {
                x.top(1);
                x.must(0, 0, true);
                x.run(200000);
            }
            case TOO_FEW_TRIES -> x.run(7);
            case LOST -> {
                x.run(200000);
                x.step(2);
            }
            default -> {
            }
        }
    }

    private static void objectsAreMadeAsMeant() {
        CHECK.sentence("(how the objects of this test are made)");
        for (Made made : Made.values()) {
            boolean found = made == Made.KEYS_ALONE || made == Made.FOUND
                    || made == Made.FOUND_WITH_LATER_KEYS || made == Made.FULL;
            CHECK.due(made + ": wrong()", make(made).wrong(), found ? 0 : MasterKeys.NONE);
        }
        CHECK.due("FULL: keys", count(make(Made.FULL), true), 8);
        CHECK.due("FULL: doors", count(make(Made.FULL), false), 6);
        CHECK.due("FOUND_WITH_LATER_KEYS: keys", count(make(Made.FOUND_WITH_LATER_KEYS), true), 5);
        CHECK.due("IN_VAIN: run", make(Made.IN_VAIN).run(200000), 0);
        CHECK.due("TOO_FEW_TRIES: tries", make(Made.TOO_FEW_TRIES).tries(), 7);
    }

    private static void callThatThrowsChangesNothing() {
        CHECK.sentence("a call that throws changes nothing");
        int[] answers = {0, 0};
        for (Made made : Made.values()) {
            String before = Seen.all(make(made), PINS, DEPTHS);
            for (Refused refused : refusedBy(make(made))) {
                MasterKeys x = make(made);
                String call = made + ": " + refused.call;
                CHECK.due(call, Check.thrownBy(() -> refused.act.make(x)), refused.thrown);
                CHECK.due(call + " and what is seen behind it", Seen.all(x, PINS, DEPTHS), before);
                answers[refused.thrown.startsWith("IllegalState") ? 1 : 0]++;
            }
            searchIsTheSame(made);
        }
        CHECK.due("calls that throw were made", answers[0] > 400 && answers[1] > 20, true);
    }

    /** All calls that throw, one behind another, and then the next search and keys. */
    private static void searchIsTheSame(Made made) {
        MasterKeys x = make(made);
        MasterKeys twin = make(made);
        for (Refused refused : refusedBy(make(made))) {
            CHECK.due(made + ": " + refused.call + " in a row",
                    Check.thrownBy(() -> refused.act.make(x)), refused.thrown);
        }
        CHECK.due(made + ": the next add", Check.answerOf(() -> x.add(0)), Check.answerOf(() -> twin.add(0)));
        CHECK.due(made + ": the next search", Check.answerOf(() -> x.run(20000)),
                Check.answerOf(() -> twin.run(20000)));
        CHECK.due(made + ": what is seen behind it", Seen.asked(x, PINS, DEPTHS), Seen.asked(twin, PINS, DEPTHS));
        CHECK.due(made + ": the next door", Check.answerOf(x::door), Check.answerOf(twin::door));
        CHECK.due(made + ": the next key", Check.answerOf(x::key), Check.answerOf(twin::key));
    }

    /** The calls that throw on an object that stands like this one. */
    private static List<Refused> refusedBy(MasterKeys x) {
        List<Refused> all = new ArrayList<>();
        boolean found = x.wrong() == 0;
        int keys = count(x, true);
        int doors = count(x, false);
        addStrangers(all, keys, doors);
        addOutOfBounds(all, doors);
        addIllegalStates(all, found, keys, doors);
        return all;
    }

    private static int count(MasterKeys x, boolean keys) {
        int count = 0;
        for (int i = 0; i < 8; i++) {
            int number = i;
            String thrown = Check.thrownBy(() -> {
                if (keys) {
                    x.cut(number, 0);
                } else {
                    x.holds(number, 0, 0);
                }
            });
            count += thrown.equals("nothing") ? 1 : 0;
        }
        return count;
    }

    private static void addStrangers(List<Refused> all, int keys, int doors) {
        for (int key : Edges.outside(0, keys - 1)) {
            argument(all, "must(" + key + ", 0, true)", x -> x.must(key, 0, true));
            argument(all, "must(" + key + ", 0, false)", x -> x.must(key, 0, false));
            argument(all, "cut(" + key + ", 0)", x -> x.cut(key, 0));
            argument(all, "fits(" + key + ", 0)", x -> x.fits(key, 0));
            argument(all, "heirs(" + key + ")", x -> x.heirs(key));
        }
        for (int door : Edges.outside(0, doors - 1)) {
            argument(all, "must(0, " + door + ", true)", x -> x.must(0, door, true));
            argument(all, "must(0, " + door + ", false)", x -> x.must(0, door, false));
            argument(all, "holds(" + door + ", 0, 0)", x -> x.holds(door, 0, 0));
            argument(all, "fits(0, " + door + ")", x -> x.fits(0, door));
        }
        for (int pin : Edges.outside(0, PINS - 1)) {
            argument(all, "cut(0, " + pin + ")", x -> x.cut(0, pin));
            argument(all, "holds(0, " + pin + ", 0)", x -> x.holds(0, pin, 0));
        }
        for (int depth : Edges.outside(0, DEPTHS - 1)) {
            argument(all, "holds(0, 0, " + depth + ")", x -> x.holds(0, 0, depth));
            argument(all, "bar(0, " + depth + ", true)", x -> x.bar(0, depth, true));
            argument(all, "bar(" + depth + ", 0, true)", x -> x.bar(depth, 0, true));
            argument(all, "bar(1, " + depth + ", false)", x -> x.bar(1, depth, false));
            argument(all, "bar(" + depth + ", 2, false)", x -> x.bar(depth, 2, false));
        }
    }

    private static void addOutOfBounds(List<Refused> all, int doors) {
        for (int most : Edges.outside(0, 7)) {
            argument(all, "step(" + most + ")", x -> x.step(most));
        }
        for (int most : Edges.outside(1, 8)) {
            argument(all, "top(" + most + ")", x -> x.top(most));
        }
        for (int tries : Edges.outside(0, 200000)) {
            argument(all, "run(" + tries + ")", x -> x.run(tries));
        }
        for (int set : Edges.outside(0, (1 << doors) - 1)) {
            argument(all, "add(" + set + ")", x -> x.add(set));
        }
    }

    private static void addIllegalStates(List<Refused> all, boolean found, int keys, int doors) {
        if (keys == 8) {
            state(all, "key()", MasterKeys::key);
        }
        if (doors == 6) {
            state(all, "door()", MasterKeys::door);
        }
        if (keys == 0) {
            state(all, "run(0)", x -> x.run(0));
            state(all, "run(200000)", x -> x.run(200000));
        }
        if (!found) {
            state(all, "left()", MasterKeys::left);
        }
        if (!found || keys == 8) {
            state(all, "add(0)", x -> x.add(0));
            state(all, "add of all doors", x -> x.add((1 << doors) - 1));
        }
        if (!found && keys > 0) {
            state(all, "heirs(0)", x -> x.heirs(0));
            state(all, "heirs of the last key", x -> x.heirs(keys - 1));
        }
    }

    private static void argument(List<Refused> all, String call, Act act) {
        all.add(new Refused(call, "IllegalArgumentException", act));
    }

    private static void state(List<Refused> all, String call, Act act) {
        all.add(new Refused(call, "IllegalStateException", act));
    }

    private static void noPlanBehindWhatIsTold() {
        CHECK.sentence("Behind key(), door(), must(), step(), bar(), top() that do not throw no plan is found");
        lost("key()", MasterKeys::key);
        lost("door()", MasterKeys::door);
        lost("must() that changes", x -> x.must(0, 1, true));
        lost("must() that takes back", x -> x.must(0, 0, false));
        lost("must() that tells the same", x -> x.must(0, 0, true));
        lost("must() that takes back what is not", x -> x.must(0, 1, false));
        lost("step() that changes", x -> x.step(7));
        lost("step() that tells the same", x -> x.step(2));
        lost("bar() that changes", x -> x.bar(0, 0, true));
        lost("bar() that takes back", x -> x.bar(1, 2, false));
        lost("bar() that tells the same", x -> x.bar(1, 2, true));
        lost("bar() that takes back what is not", x -> x.bar(0, 0, false));
        lost("top() that changes", x -> x.top(8));
        lost("top() that tells the same", x -> x.top(3));
    }

    private static void lost(String call, Act act) {
        for (Made made : new Made[] {Made.FOUND, Made.FOUND_WITH_LATER_KEYS}) {
            MasterKeys x = make(made);
            CHECK.due("wrong() before " + call, x.wrong(), 0);
            int tries = x.tries();
            act.make(x);
            CHECK.due("wrong() behind " + call, x.wrong(), MasterKeys.NONE);
            for (int i = 0; i < 3; i++) {
                CHECK.due("cuts behind " + call, Check.cuts(x, i, PINS), "-1-1-1");
                CHECK.due("fits() behind " + call, x.fits(i, i), false);
                CHECK.due("holds() behind " + call, x.holds(0, 0, i), false);
                int key = i;
                CHECK.illegalState("heirs() behind " + call, () -> x.heirs(key));
            }
            CHECK.illegalState("left() behind " + call, x::left);
            CHECK.illegalState("add(0) behind " + call, () -> x.add(0));
            CHECK.due("tries() behind " + call, x.tries(), tries);
        }
    }

    private static void thePlanStaysBehindWhatIsAsked() {
        CHECK.sentence("Behind key(), door(), must(), step(), bar(), top() .. no plan is found, and behind no others");
        MasterKeys x = make(Made.FOUND);
        String before = Seen.asked(x, PINS, DEPTHS);
        CHECK.due("wrong()", x.wrong(), 0);
        CHECK.due("all that can be asked, again", Seen.asked(x, PINS, DEPTHS), before);
        CHECK.due("add of a door alone", x.add(1), MasterKeys.NONE);
        CHECK.due("all that can be asked, behind it", Seen.asked(x, PINS, DEPTHS), before);
        CHECK.due("the same search again", x.run(x.tries()), 1);
        CHECK.due("all that can be asked, behind it", Seen.asked(x, PINS, DEPTHS), before);
        CHECK.due("add(0)", x.add(0), 3);
        CHECK.due("wrong() behind it", x.wrong(), 0);
    }

    private static void doorOfNoKeyHoldsNothing() {
        CHECK.sentence("A door that no key must open holds nothing, and no key fits it");
        for (int doors = 1; doors <= 6; doors++) {
            MasterKeys x = Check.plan(2, 8, 8, doors);
            CHECK.due("run", x.run(200000), 1);
            holdsNothing(x, doors - 1, 2, 8, 8);
            CHECK.due("left()", x.left(), 64 - 8);
            CHECK.due("wrong()", x.wrong(), 0);
        }
        MasterKeys one = Check.plan(2, 8, 1, 6);
        one.run(200000);
        for (int door = 0; door < 6; door++) {
            CHECK.due("add of door " + door, one.add(1 << door), MasterKeys.NONE);
        }
        CHECK.due("add(63)", one.add(63), MasterKeys.NONE);
        CHECK.due("add(0)", one.add(0), 1);
    }

    private static void doorOfNoKeyAnyMoreHoldsNothing() {
        CHECK.sentence("A door that no key must open holds nothing, and no key fits it, any more");
        MasterKeys x = Check.plan(3, 3, 2, 2);
        x.must(0, 0, true);
        x.must(1, 1, true);
        CHECK.due("run", x.run(200000), 1);
        CHECK.due("fits(1, 1)", x.fits(1, 1), true);
        x.must(1, 1, false);
        CHECK.due("run again", x.run(200000), 1);
        holdsNothing(x, 1, 3, 3, 2);
        CHECK.due("fits(0, 0)", x.fits(0, 0), true);
        CHECK.due("left()", x.left(), 25);
    }

    private static void holdsNothing(MasterKeys x, int door, int pins, int depths, int keys) {
        for (int pin = 0; pin < pins; pin++) {
            for (int depth = 0; depth < depths; depth++) {
                CHECK.due("holds(" + door + ", " + pin + ", " + depth + ")", x.holds(door, pin, depth), false);
            }
        }
        for (int key = 0; key < keys; key++) {
            CHECK.due("fits(" + key + ", " + door + ")", x.fits(key, door), false);
        }
    }

    private static void fitsAtEachPin() {
        CHECK.sentence("A key FITS a door if the door holds its cut at each pin");
        // the doors hold one depth at the first pin, at the last, at the middle one, and both elsewhere
        MasterKeys first = keysOfADoor(new boolean[] {true, true, true}, false);
        laterCuts(first, 0, 4, "000 001 010", "011 100 101 110 111");
        MasterKeys last = keysOfADoor(new boolean[] {true, true, true}, true);
        laterCuts(last, 2, 1, "000 100 110", "111");
        MasterKeys middle = keysOfADoor(new boolean[] {true, true, false, true}, false);
        laterCuts(middle, 1, 3, "000 001 010 100", "101 011 110 111");
    }

    /** Three pins, two depths; if 0 1 is barred, rows never rise. */
    private static MasterKeys keysOfADoor(boolean[] opens, boolean barred) {
        MasterKeys x = Check.plan(3, 2, opens.length, 1);
        for (int key = 0; key < opens.length; key++) {
            x.must(key, 0, opens[key]);
        }
        x.bar(0, 1, barred);
        CHECK.due("run", x.run(200000), 1);
        return x;
    }

    private static void laterCuts(MasterKeys x, int narrow, int left, String found, String later) {
        for (int pin = 0; pin < 3; pin++) {
            CHECK.due("holds(0, " + pin + ", 0)", x.holds(0, pin, 0), true);
            CHECK.due("holds(0, " + pin + ", 1)", x.holds(0, pin, 1), pin != narrow);
        }
        String[] want = (found + " " + later).split(" ");
        int keys = found.split(" ").length;
        CHECK.due("left()", x.left(), left);
        int fitting = x.add(1) == MasterKeys.NONE ? 0 : 1;
        CHECK.due("rows that fit and are no key's", fitting, later.split(" ").length - left);
        for (int i = 0; i < left; i++) {
            CHECK.due("add(0)", x.add(0), keys + fitting + i);
        }
        for (int key = 0; key < want.length; key++) {
            CHECK.due("cuts of key " + key, Check.cuts(x, key, 3), want[key]);
        }
        CHECK.due("left() at last", x.left(), 0);
        CHECK.due("wrong() at last", x.wrong(), 0);
    }

    private static void neighbouringPinsAlone() {
        CHECK.sentence("those of neighbouring pins differ by no more than STEP, and no pair .. stands at neighbouring pins");
        // 0 1 2 alone: its first and last cuts differ by more than STEP, and their pair is barred
        MasterKeys x = Check.plan(3, 3, 1, 0);
        x.step(1);
        for (int pair = 0; pair < 9; pair++) {
            x.bar(pair / 3, pair % 3, pair != 1 && pair != 5);
        }
        CHECK.due("run", x.run(200000), 1);
        CHECK.due("cuts", Check.cuts(x, 0, 3), "012");
        CHECK.due("left()", x.left(), 0);
    }

    private static void theLesserPinsDepthIsTheFirst() {
        CHECK.sentence("no pair of depths (the lesser pin's first) that is BARRED");
        MasterKeys x = Check.plan(2, 2, 1, 0);
        x.bar(0, 0, true);
        x.bar(0, 1, true);
        CHECK.due("run", x.run(5), 1);
        CHECK.due("cuts", Check.cuts(x, 0, 2), "10");
        x.bar(0, 1, false);
        x.bar(1, 0, true);
        CHECK.due("run with the other pair", x.run(3), 1);
        CHECK.due("cuts with the other pair", Check.cuts(x, 0, 2), "01");
    }

    private static void barBindsAtEachPairOfPins() {
        CHECK.sentence("no pair .. that is BARRED stands at neighbouring pins, the last ones too");
        for (int pins = 2; pins <= 6; pins++) {
            MasterKeys falling = Check.plan(pins, 2, 1, 0);
            falling.bar(0, 1, true);
            falling.run(100);
            CHECK.due("rows that never rise, without the key's", falling.left(), pins);
            MasterKeys turning = Check.plan(pins, 2, 1, 0);
            turning.bar(0, 0, true);
            turning.bar(1, 1, true);
            turning.run(100);
            CHECK.due("cuts that turn at each pin", Check.cuts(turning, 0, pins), "010101".substring(0, pins));
            CHECK.due("rows that turn at each pin, without the key's", turning.left(), 1);
        }
    }

    private static void noTwoKeysAlike() {
        CHECK.sentence("no two keys alike");
        for (int rows = 1; rows <= 7; rows++) {
            // with STEP 0 there are as many rows as depths; barred pairs take the others
            MasterKeys x = Check.plan(2, Math.max(2, rows), rows, 0);
            x.step(0);
            x.bar(1, 1, rows == 1);
            CHECK.due("run with " + rows + " keys and rows", x.run(200000), 1);
            CHECK.due("left()", x.left(), 0);
            CHECK.due("add(0)", x.add(0), MasterKeys.NONE);
            x.key();
            // from seven rows on, to look at all of them needs more than 200000 tries
            CHECK.due("run with a key more than " + rows + " rows", x.run(200000), rows < 7 ? 0 : 2);
        }
    }

    private static void otherwiseItMustNot() {
        CHECK.sentence("whether the key MUST open it (not, at first); otherwise it must not");
        // the door of 00, 01 and 10 is fitted by 11 too: in two depths there is no row for key 3
        MasterKeys x = Check.plan(2, 2, 4, 1);
        for (int key = 0; key < 3; key++) {
            x.must(key, 0, true);
        }
        CHECK.due("run for a key that must not", x.run(200000), 0);
        x.must(3, 0, true);
        CHECK.due("run for a key that must", x.run(200000), 1);
        CHECK.due("its cuts", Check.cuts(x, 3, 2), "11");
    }

    private static void fiveHundredAndTwelveCalls() {
        CHECK.sentence("An object is used for at most 512 calls");
        MasterKeys x = new MasterKeys(6, 8);
        x.key();
        x.key();
        for (int call = 2; call < 510; call += 2) {
            CHECK.due("call " + (call + 1), x.run(call), call < 13 ? 2 : 1);
            CHECK.due("call " + (call + 2), x.tries(), Math.min(call, 13));
        }
        CHECK.due("call 511", x.add(0), 2);
        CHECK.due("call 512", x.left(), 262141);
    }
}
