import java.util.Random;
import java.util.function.Supplier;

/** Runs of drawn calls: every answer is the model's, and all that can be asked stays the model's. */
public final class ModelTest {
    private static final int SMALL_RUNS = 2500;
    private static final int LARGE_RUNS = 12;
    private static final int FAULTS_SHOWN = 20;

    private final Random random;
    private final Check check;
    private final int number;
    private final MasterKeys program;
    private final Model model;
    private final int mostTries;
    private int faults = 0;
    private static final int[] SEEN = new int[3];
    private static int added = 0;
    private static int refused = 0;

    private ModelTest(Check check, int number, boolean large) {
        this.check = check;
        this.number = number;
        random = new Random(number);
        int pins = large ? 5 + random.nextInt(3) : random.nextInt(5);
        int depths = large ? 6 + random.nextInt(4) : random.nextInt(5);
        mostTries = large ? 20000 : 3000;
        program = new MasterKeys(pins, depths);
        model = new Model(pins, depths);
    }

    public static void main(String[] args) {
        Check check = new Check();
        for (int number = 0; number < SMALL_RUNS; number++) {
            new ModelTest(check, number, false).make(120);
        }
        for (int number = 0; number < LARGE_RUNS; number++) {
            new ModelTest(check, SMALL_RUNS + number, true).make(60);
        }
        // the draws must reach all kinds of answers, or the comparison would tell little
        check.due("searches of each answer are drawn", SEEN[0] > 100 && SEEN[1] > 100 && SEEN[2] > 100, true);
        check.due("later keys and refusals are drawn", added > 100 && refused > 100, true);
        check.end();
    }

    private void make(int calls) {
        int keys = random.nextInt(6);
        int doors = random.nextInt(5);
        for (int i = 0; i < keys; i++) {
            same("key()", program::key, model::key);
        }
        for (int i = 0; i < doors; i++) {
            same("door()", program::door, model::door);
        }
        for (int call = 0; call < calls && faults < FAULTS_SHOWN; call++) {
            drawnCall();
        }
    }

    private void drawnCall() {
        int which = random.nextInt(100);
        if (which < 3) {
            same("key()", program::key, model::key);
        } else if (which < 5) {
            same("door()", program::door, model::door);
        } else if (which < 20) {
            must();
        } else if (which < 30) {
            law();
        } else if (which < 60) {
            run();
        } else if (which < 75) {
            add();
        } else {
            ask();
        }
    }

    private void must() {
        int key = near(model.keyCount());
        int door = near(model.doorCount());
        boolean opens = random.nextBoolean();
        same("must(" + key + ", " + door + ", " + opens + ")",
                () -> program.must(key, door, opens), () -> model.must(key, door, opens));
    }

    private void law() {
        int which = random.nextInt(4);
        int most = random.nextInt(12) - 1;
        if (which == 0) {
            same("step(" + most + ")", () -> program.step(most), () -> model.step(most));
        } else if (which == 1) {
            same("top(" + most + ")", () -> program.top(most), () -> model.top(most));
        } else {
            int first = near(model.depthCount());
            int second = near(model.depthCount());
            boolean on = random.nextInt(3) == 0;
            same("bar(" + first + ", " + second + ", " + on + ")",
                    () -> program.bar(first, second, on), () -> model.bar(first, second, on));
        }
    }

    private void run() {
        int tries = random.nextInt(4) == 0 ? near(60) : random.nextInt(mostTries);
        Object answer = same("run(" + tries + ")", () -> program.run(tries), () -> model.run(tries));
        if (answer instanceof Integer found) {
            SEEN[found]++;
        }
        same("tries()", program::tries, model::tries);
        if (random.nextInt(4) == 0) {
            compareAll();
        }
    }

    private void add() {
        int set = near(1 << model.doorCount());
        Object answer = same("add(" + set + ")", () -> program.add(set), () -> model.add(set));
        if (answer instanceof Integer key) {
            if (key >= 0) {
                added++;
            } else {
                refused++;
            }
            compareAll();
        }
    }

    private void ask() {
        int key = near(model.keyCount());
        int door = near(model.doorCount());
        int pin = near(model.pinCount());
        int depth = near(model.depthCount());
        same("cut(" + key + ", " + pin + ")", () -> program.cut(key, pin), () -> model.cut(key, pin));
        same("holds(" + door + ", " + pin + ", " + depth + ")",
                () -> program.holds(door, pin, depth), () -> model.holds(door, pin, depth));
        same("fits(" + key + ", " + door + ")", () -> program.fits(key, door), () -> model.fits(key, door));
        same("heirs(" + key + ")", () -> program.heirs(key), () -> model.heirs(key));
        same("wrong()", program::wrong, model::wrong);
        same("tries()", program::tries, model::tries);
    }

    private void compareAll() {
        for (int key = 0; key < model.keyCount(); key++) {
            int asked = key;
            for (int pin = 0; pin < model.pinCount(); pin++) {
                int at = pin;
                same("cut(" + key + ", " + pin + ")", () -> program.cut(asked, at), () -> model.cut(asked, at));
            }
            for (int door = 0; door < model.doorCount(); door++) {
                int at = door;
                same("fits(" + key + ", " + door + ")", () -> program.fits(asked, at), () -> model.fits(asked, at));
            }
            same("heirs(" + key + ")", () -> program.heirs(asked), () -> model.heirs(asked));
        }
        same("wrong()", program::wrong, model::wrong);
        same("left()", program::left, model::left);
    }

    /** Mostly a number below a bound, at times one beside it. */
    private int near(int bound) {
        int strange = random.nextInt(40);
        if (strange == 0) {
            return -1;
        }
        if (strange == 1) {
            return bound;
        }
        return bound == 0 ? 0 : random.nextInt(bound);
    }

    private Object same(String call, Supplier<Object> ofProgram, Supplier<Object> ofModel) {
        Object want = answer(ofModel);
        Object got = answer(ofProgram);
        if (!got.equals(want)) {
            faults++;
        }
        check.due("drawn run " + number + ": " + call, got, want);
        return want;
    }

    private static Object answer(Supplier<Object> call) {
        try {
            return call.get();
        } catch (RuntimeException e) {
            return e.getClass().getSimpleName();
        }
    }
}
