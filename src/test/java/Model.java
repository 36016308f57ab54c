import java.util.ArrayList;
import java.util.HashSet;
import java.util.List;
import java.util.Set;

/** The document word by word, slow and plain: what the program is compared with. */
final class Model {
    private final int pins;
    private final int depths;
    private final List<Set<Integer>> doorsOfKey = new ArrayList<>();
    private final Set<List<Integer>> barred = new HashSet<>();
    private int doors = 0;
    private int step = 7;
    private int top = 8;
    private int made = 0;
    /** The cuts of all keys; null if no plan is found. */
    private List<List<Integer>> plan = null;

    /** Ends a search that would need more tries. */
    private static final class TooMany extends Exception {
        private static final long serialVersionUID = 1L;
    }

    Model(int pins, int depths) {
        this.pins = pins < 2 ? 2 : pins > 6 ? 6 : pins;
        this.depths = depths < 2 ? 2 : depths > 8 ? 8 : depths;
    }

    int keyCount() {
        return doorsOfKey.size();
    }

    int doorCount() {
        return doors;
    }

    int pinCount() {
        return pins;
    }

    int depthCount() {
        return depths;
    }

    int key() {
        state(doorsOfKey.size() < 8);
        plan = null;
        doorsOfKey.add(new HashSet<>());
        return doorsOfKey.size() - 1;
    }

    int door() {
        state(doors < 6);
        plan = null;
        return doors++;
    }

    boolean must(int key, int door, boolean opens) {
        argument(isKey(key) && isDoor(door));
        plan = null;
        Set<Integer> told = doorsOfKey.get(key);
        return opens ? !told.add(door) : told.remove(door);
    }

    int step(int most) {
        argument(most >= 0 && most <= 7);
        plan = null;
        int was = step;
        step = most;
        return was;
    }

    boolean bar(int first, int second, boolean on) {
        argument(isDepth(first) && isDepth(second));
        plan = null;
        List<Integer> pair = List.of(first, second);
        return on ? !barred.add(pair) : barred.remove(pair);
    }

    int top(int most) {
        argument(most >= 1 && most <= 8);
        plan = null;
        int was = top;
        top = most;
        return was;
    }

    int run(int tries) {
        argument(tries >= 0 && tries <= 200000);
        state(!doorsOfKey.isEmpty());
        plan = null;
        made = 0;
        List<List<Integer>> rows = new ArrayList<>();
        rows.add(new ArrayList<>());
        try {
            boolean found = search(rows, tries);
            plan = found ? rows : null;
            return found ? 1 : 0;
        } catch (TooMany e) {
            return 2;
        }
    }

    private boolean search(List<List<Integer>> rows, int tries) throws TooMany {
        List<Integer> row = rows.get(rows.size() - 1);
        for (int depth = 0; depth < depths; depth++) {
            if (made == tries) {
                throw new TooMany();
            }
            made++;
            row.add(depth);
            if (isLawful(row) && goesOn(rows, tries)) {
                return true;
            }
            row.remove(row.size() - 1);
        }
        return false;
    }

    private boolean goesOn(List<List<Integer>> rows, int tries) throws TooMany {
        if (rows.get(rows.size() - 1).size() < pins) {
            return search(rows, tries);
        }
        if (!isPlan(rows)) {
            return false;
        }
        if (rows.size() == doorsOfKey.size()) {
            return true;
        }
        rows.add(new ArrayList<>());
        if (search(rows, tries)) {
            return true;
        }
        rows.remove(rows.size() - 1);
        return false;
    }

    private boolean isLawful(List<Integer> row) {
        for (int pin = 1; pin < row.size(); pin++) {
            int before = row.get(pin - 1);
            int depth = row.get(pin);
            if (Math.abs(before - depth) > step || barred.contains(List.of(before, depth))) {
                return false;
            }
        }
        return true;
    }

    private boolean isPlan(List<List<Integer>> rows) {
        if (new HashSet<>(rows).size() < rows.size()) {
            return false;
        }
        for (int door = 0; door < doors; door++) {
            for (int pin = 0; pin < pins; pin++) {
                if (held(rows, door, pin).size() > top) {
                    return false;
                }
            }
            for (int key = 0; key < rows.size(); key++) {
                if (!doorsOfKey.get(key).contains(door) && rowFits(rows, rows.get(key), door)) {
                    return false;
                }
            }
        }
        return true;
    }

    private Set<Integer> held(List<List<Integer>> rows, int door, int pin) {
        Set<Integer> found = new HashSet<>();
        for (int key = 0; key < rows.size(); key++) {
            if (doorsOfKey.get(key).contains(door)) {
                found.add(rows.get(key).get(pin));
            }
        }
        return found;
    }

    private boolean rowFits(List<List<Integer>> rows, List<Integer> row, int door) {
        for (int pin = 0; pin < pins; pin++) {
            if (!held(rows, door, pin).contains(row.get(pin))) {
                return false;
            }
        }
        return true;
    }

    int tries() {
        return made;
    }

    int cut(int key, int pin) {
        argument(isKey(key) && isPin(pin));
        return plan == null ? -1 : plan.get(key).get(pin);
    }

    boolean holds(int door, int pin, int depth) {
        argument(isDoor(door) && isPin(pin) && isDepth(depth));
        return plan != null && held(plan, door, pin).contains(depth);
    }

    boolean fits(int key, int door) {
        argument(isKey(key) && isDoor(door));
        return plan != null && rowFits(plan, plan.get(key), door);
    }

    int wrong() {
        if (plan == null) {
            return -1;
        }
        int count = 0;
        for (int key = 0; key < doorsOfKey.size(); key++) {
            for (int door = 0; door < doors; door++) {
                if (fits(key, door) != doorsOfKey.get(key).contains(door)) {
                    count++;
                }
            }
        }
        return count;
    }

    int left() {
        state(plan != null);
        int count = 0;
        for (List<Integer> row : allRows()) {
            if (isLawful(row) && !plan.contains(row) && fitted(row) == 0) {
                count++;
            }
        }
        return count;
    }

    int add(int set) {
        argument(set >= 0 && set < 1 << doors);
        state(plan != null && doorsOfKey.size() < 8);
        for (List<Integer> row : allRows()) {
            if (isLawful(row) && !plan.contains(row) && fitted(row) == set) {
                enter(row, set);
                return plan.size() - 1;
            }
        }
        return -1;
    }

    private void enter(List<Integer> row, int set) {
        plan.add(row);
        Set<Integer> told = new HashSet<>();
        for (int door = 0; door < doors; door++) {
            if ((set >> door & 1) != 0) {
                told.add(door);
            }
        }
        doorsOfKey.add(told);
    }

    private int fitted(List<Integer> row) {
        int set = 0;
        for (int door = 0; door < doors; door++) {
            if (rowFits(plan, row, door)) {
                set += 1 << door;
            }
        }
        return set;
    }

    /** All rows of cuts, the least first. */
    private List<List<Integer>> allRows() {
        List<List<Integer>> rows = new ArrayList<>();
        rows.add(List.of());
        for (int pin = 0; pin < pins; pin++) {
            List<List<Integer>> longer = new ArrayList<>();
            for (List<Integer> row : rows) {
                for (int depth = 0; depth < depths; depth++) {
                    List<Integer> next = new ArrayList<>(row);
                    next.add(depth);
                    longer.add(next);
                }
            }
            rows = longer;
        }
        return rows;
    }

    int heirs(int key) {
        argument(isKey(key));
        state(plan != null);
        int set = 0;
        for (int other = 0; other < doorsOfKey.size(); other++) {
            boolean asGood = other != key;
            for (int door = 0; door < doors; door++) {
                if (fits(key, door) && !fits(other, door)) {
                    asGood = false;
                }
            }
            set += asGood ? 1 << other : 0;
        }
        return set;
    }

    private boolean isKey(int key) {
        return key >= 0 && key < doorsOfKey.size();
    }

    private boolean isDoor(int door) {
        return door >= 0 && door < doors;
    }

    private boolean isPin(int pin) {
        return pin >= 0 && pin < pins;
    }

    private boolean isDepth(int depth) {
        return depth >= 0 && depth < depths;
    }

    private static void argument(boolean legal) {
        if (!legal) {
            throw new IllegalArgumentException();
        }
    }

    private static void state(boolean legal) {
        if (!legal) {
            throw new IllegalStateException();
        }
    }
}
