/**
 * A locking plan: who opens which door is told, and keys' cuts are looked for so that every key
 * opens just its doors; later keys are cut without touching a door.
 */
public final class MasterKeys {
    public static final int NONE = -1;

    private static final int MOST_KEYS = 8;
    private static final int MOST_DOORS = 6;
    private static final int MOST_PINS = 6;
    private static final int MOST_DEPTHS = 8;
    private static final int MOST_STEP = 7;
    private static final int MOST_TRIES = 200000;
    private static final int DOOR_SETS = 1 << MOST_DOORS;

    private static final int NO_PLAN = 0;
    private static final int PLAN = 1;
    private static final int MORE_TRIES = 2;

    private final Law law;
    private final Board board;
    private final Search search;
    private final Rows rows;
    private boolean found;

    public MasterKeys(int pins, int depths) {
        law = new Law(
                Math.max(2, Math.min(MOST_PINS, pins)), Math.max(2, Math.min(MOST_DEPTHS, depths)));
        board = new Board(law);
        search = new Search(law, board);
        rows = new Rows(law, board);
    }

    public int key() throws IllegalStateException {
        if (board.keys >= MOST_KEYS) {
            throw new IllegalStateException("there are 8 keys");
        }
        found = false;
        board.keys++;
        return board.keys - 1;
    }

    public int door() throws IllegalStateException {
        if (board.doors >= MOST_DOORS) {
            throw new IllegalStateException("there are 6 doors");
        }
        found = false;
        board.doors++;
        return board.doors - 1;
    }

    public boolean must(int key, int door, boolean opens) throws IllegalArgumentException {
        needKey(key);
        needDoor(door);
        found = false;
        boolean had = board.mustOpen(key, door);
        board.tell(key, door, opens);
        return had;
    }

    public int step(int most) throws IllegalArgumentException {
        if (most < 0 || most > MOST_STEP) {
            throw new IllegalArgumentException("STEP is 0 .. 7");
        }
        found = false;
        int was = law.step;
        law.step = most;
        return was;
    }

    public boolean bar(int first, int second, boolean on) throws IllegalArgumentException {
        needDepth(first);
        needDepth(second);
        found = false;
        boolean was = law.isBarred(first, second);
        law.setBarred(first, second, on);
        return was;
    }

    public int top(int most) throws IllegalArgumentException {
        if (most < 1 || most > MOST_DEPTHS) {
            throw new IllegalArgumentException("TOP is 1 .. 8");
        }
        found = false;
        int was = law.top;
        law.top = most;
        return was;
    }

    public int run(int tries) throws IllegalArgumentException, IllegalStateException {
        if (tries < 0 || tries > MOST_TRIES) {
            throw new IllegalArgumentException("tries are 0 .. 200000");
        }
        if (board.keys == 0) {
            throw new IllegalStateException("there are no keys");
        }
        int answer = search.look(tries);
        found = answer == PLAN;
        return answer;
    }

    public int tries() {
        return search.made;
    }

    public int cut(int key, int pin) throws IllegalArgumentException {
        needKey(key);
        needPin(pin);
        return found ? board.cuts[key][pin] : NONE;
    }

    public boolean holds(int door, int pin, int depth) throws IllegalArgumentException {
        needDoor(door);
        needPin(pin);
        needDepth(depth);
        return found && (board.doorsHolding(pin, depth) >> door & 1) != 0;
    }

    public boolean fits(int key, int door) throws IllegalArgumentException {
        needKey(key);
        needDoor(door);
        return found && (board.doorsOf(key) >> door & 1) != 0;
    }

    public int wrong() {
        if (!found) {
            return NONE;
        }
        int count = 0;
        for (int key = 0; key < board.keys; key++) {
            count += Integer.bitCount(board.doorsOf(key) ^ board.opens[key]);
        }
        return count;
    }

    public int left() throws IllegalStateException {
        needPlan();
        return rows.countFree(0);
    }

    public int add(int doors) throws IllegalArgumentException, IllegalStateException {
        if (doors < 0 || doors > board.allDoors()) {
            throw new IllegalArgumentException("there are no such doors");
        }
        needPlan();
        if (board.keys >= MOST_KEYS) {
            throw new IllegalStateException("there are 8 keys");
        }
        if (!rows.cutLeast(doors)) {
            return NONE;
        }
        board.enter(doors);
        return board.keys - 1;
    }

    public int heirs(int key) throws IllegalArgumentException, IllegalStateException {
        needKey(key);
        needPlan();
        int lost = board.doorsOf(key);
        int asGood = 0;
        for (int other = 0; other < board.keys; other++) {
            if (other != key && (lost & ~board.doorsOf(other)) == 0) {
                asGood |= 1 << other;
            }
        }
        return asGood;
    }

    private void needKey(int key) {
        if (key < 0 || key >= board.keys) {
            throw new IllegalArgumentException("there is no such key");
        }
    }

    private void needDoor(int door) {
        if (door < 0 || door >= board.doors) {
            throw new IllegalArgumentException("there is no such door");
        }
    }

    private void needPin(int pin) {
        if (pin < 0 || pin >= law.pins) {
            throw new IllegalArgumentException("there is no such pin");
        }
    }

    private void needDepth(int depth) {
        if (depth < 0 || depth >= law.depths) {
            throw new IllegalArgumentException("there is no such depth");
        }
    }

    private void needPlan() {
        if (!found) {
            throw new IllegalStateException("no plan is found");
        }
    }

    /** What cuts may be: the pins and depths that there are, STEP, TOP and the barred pairs. */
    private static final class Law {
        final int pins;
        final int depths;
        int step = MOST_STEP;
        int top = MOST_DEPTHS;
        private long barred;

        Law(int pins, int depths) {
            this.pins = pins;
            this.depths = depths;
        }

        boolean isBarred(int first, int second) {
            return (barred & pairBit(first, second)) != 0;
        }

        void setBarred(int first, int second, boolean on) {
            if (on) {
                barred |= pairBit(first, second);
            } else {
                barred &= ~pairBit(first, second);
            }
        }

        /** Whether a depth may stand behind another one at neighbouring pins. */
        boolean mayFollow(int before, int depth) {
            return Math.abs(depth - before) <= step && !isBarred(before, depth);
        }

        private static long pairBit(int first, int second) {
            return 1L << (first * MOST_DEPTHS + second);
        }
    }

    /**
     * The keys and doors. A row of cuts, and what a door holds, are bits: eight for each pin, one
     * for each depth. So a row fits a door if all its bits are the door's too.
     */
    private static final class Board {
        final Law law;
        int keys;
        int doors;
        /** For each key the set of doors that it must open. */
        final int[] opens = new int[MOST_KEYS];
        final int[][] cuts = new int[MOST_KEYS][MOST_PINS];
        private final long[] rowOf = new long[MOST_KEYS];
        /**
         * What each door holds with the first 0, 1, .. keys alone: the search comes back to fewer
         * keys again and again, and finds here what the doors held then.
         */
        private final long[][] held = new long[MOST_KEYS + 1][MOST_DOORS];

        Board(Law law) {
            this.law = law;
        }

        static long bit(int pin, int depth) {
            return 1L << (pin * MOST_DEPTHS + depth);
        }

        int allDoors() {
            return (1 << doors) - 1;
        }

        boolean mustOpen(int key, int door) {
            return (opens[key] >> door & 1) != 0;
        }

        void tell(int key, int door, boolean open) {
            if (open) {
                opens[key] |= 1 << door;
            } else {
                opens[key] &= ~(1 << door);
            }
        }

        /** The doors that hold a depth at a pin. */
        int doorsHolding(int pin, int depth) {
            return doorsFitted(bit(pin, depth));
        }

        /** The doors that a key fits. */
        int doorsOf(int key) {
            return doorsFitted(rowOf[key]);
        }

        private int doorsFitted(long row) {
            int fitted = 0;
            for (int door = 0; door < doors; door++) {
                if (isWithin(row, held[keys][door])) {
                    fitted |= 1 << door;
                }
            }
            return fitted;
        }

        /** How many keys have all these bits in their rows and fit just these doors. */
        int countKeys(long bits, int wanted) {
            int count = 0;
            for (int key = 0; key < keys; key++) {
                if (isWithin(bits, rowOf[key]) && doorsOf(key) == wanted) {
                    count++;
                }
            }
            return count;
        }

        /** Makes a key of the cuts that stand behind the last key's; they fit just these doors. */
        void enter(int wanted) {
            int key = keys;
            opens[key] = wanted;
            rowOf[key] = rowFromCuts(key);
            for (int door = 0; door < doors; door++) {
                held[key + 1][door] = held[key][door];
            }
            keys++;
        }

        /** Whether a key's cuts go with the cuts of the keys before it, as if no others were. */
        boolean accepts(int key) {
            long row = rowFromCuts(key);
            if (isTaken(row, key)) {
                return false;
            }
            rowOf[key] = row;
            for (int door = 0; door < doors; door++) {
                if (!doorAccepts(door, key)) {
                    return false;
                }
            }
            return true;
        }

        /** A door that the key need not open stays as it was: the keys before need no new look. */
        private boolean doorAccepts(int door, int key) {
            long row = rowOf[key];
            long now = held[key][door];
            if (mustOpen(key, door)) {
                now |= row;
                if (isAboveTop(now) || strangerFits(now, door, key)) {
                    return false;
                }
            } else if (isWithin(row, now)) {
                return false;
            }
            held[key + 1][door] = now;
            return true;
        }

        private boolean isAboveTop(long now) {
            for (int pin = 0; pin < law.pins; pin++) {
                if (Long.bitCount(now >>> (pin * MOST_DEPTHS) & 255L) > law.top) {
                    return true;
                }
            }
            return false;
        }

        private boolean strangerFits(long now, int door, int before) {
            for (int key = 0; key < before; key++) {
                if (!mustOpen(key, door) && isWithin(rowOf[key], now)) {
                    return true;
                }
            }
            return false;
        }

        private boolean isTaken(long row, int before) {
            for (int key = 0; key < before; key++) {
                if (rowOf[key] == row) {
                    return true;
                }
            }
            return false;
        }

        private long rowFromCuts(int key) {
            long row = 0;
            for (int pin = 0; pin < law.pins; pin++) {
                row |= bit(pin, cuts[key][pin]);
            }
            return row;
        }

        private static boolean isWithin(long bits, long whole) {
            return (bits & ~whole) == 0;
        }
    }

    /** The search: key by key, pin by pin, each depth that is looked at being a try. */
    private static final class Search {
        final Law law;
        final Board board;
        int made;
        private int key;
        private int pin;

        Search(Law law, Board board) {
            this.law = law;
            this.board = board;
        }

        int look(int most) {
            made = 0;
            key = 0;
            pin = 0;
            board.cuts[key][pin] = NONE;
            while (made < most) {
                made++;
                board.cuts[key][pin]++;
                if (!stands()) {
                    if (!goBack()) {
                        return NO_PLAN;
                    }
                } else if (!goOn()) {
                    return PLAN;
                }
            }
            return MORE_TRIES;
        }

        private boolean stands() {
            int[] row = board.cuts[key];
            if (pin > 0 && !law.mayFollow(row[pin - 1], row[pin])) {
                return false;
            }
            return pin < law.pins - 1 || board.accepts(key);
        }

        /** Goes to the next pin, before its first depth; false if there is none. */
        private boolean goOn() {
            if (pin < law.pins - 1) {
                pin++;
            } else if (key < board.keys - 1) {
                key++;
                pin = 0;
            } else {
                return false;
            }
            board.cuts[key][pin] = NONE;
            return true;
        }

        /** Goes back to the latest pin that has a depth left to look at; false if there is none. */
        private boolean goBack() {
            for (; key >= 0; key--) {
                for (; pin >= 0; pin--) {
                    if (board.cuts[key][pin] < law.depths - 1) {
                        return true;
                    }
                }
                pin = law.pins - 1;
            }
            return false;
        }
    }

    /**
     * Rows of cuts that no key has. They are counted by what is left of the doors from pin to pin,
     * for there are up to 262144 of them, but only 64 sets of doors.
     */
    private static final class Rows {
        final Law law;
        final Board board;
        /**
         * For a pin, its depth and the set of doors that hold the cuts up to it: how many lawful
         * ways to cut the pins behind it leave just the wanted doors.
         */
        private final int[][] ways = new int[MOST_PINS][MOST_DEPTHS * DOOR_SETS];

        Rows(Law law, Board board) {
            this.law = law;
            this.board = board;
        }

        /** How many lawful rows that are no key's fit just these doors. */
        int countFree(int wanted) {
            countWays(wanted);
            int count = 0;
            for (int depth = 0; depth < law.depths; depth++) {
                count += ways[0][state(depth, board.doorsHolding(0, depth))];
            }
            return count - board.countKeys(0L, wanted);
        }

        /**
         * Writes the least of these rows behind the last key's cuts; false if there is none. There
         * must be room for one more key.
         */
        boolean cutLeast(int wanted) {
            countWays(wanted);
            int[] cuts = board.cuts[board.keys];
            int fitted = board.allDoors();
            long row = 0;
            for (int pin = 0; pin < law.pins; pin++) {
                int before = pin > 0 ? cuts[pin - 1] : NONE;
                int depth = leastDepth(pin, before, fitted, row, wanted);
                if (depth == NONE) {
                    return false;
                }
                cuts[pin] = depth;
                fitted &= board.doorsHolding(pin, depth);
                row |= Board.bit(pin, depth);
            }
            return true;
        }

        /** The least depth at a pin behind which a row is free; before is NONE at the first pin. */
        private int leastDepth(int pin, int before, int fitted, long row, int wanted) {
            for (int depth = 0; depth < law.depths; depth++) {
                if (before == NONE || law.mayFollow(before, depth)) {
                    int now = fitted & board.doorsHolding(pin, depth);
                    int taken = board.countKeys(row | Board.bit(pin, depth), wanted);
                    if (ways[pin][state(depth, now)] > taken) {
                        return depth;
                    }
                }
            }
            return NONE;
        }

        private void countWays(int wanted) {
            int last = law.pins - 1;
            for (int depth = 0; depth < law.depths; depth++) {
                for (int fitted = 0; fitted < DOOR_SETS; fitted++) {
                    ways[last][state(depth, fitted)] = fitted == wanted ? 1 : 0;
                }
            }
            for (int pin = last - 1; pin >= 0; pin--) {
                countWaysBehind(pin);
            }
        }

        private void countWaysBehind(int pin) {
            for (int i = 0; i < MOST_DEPTHS * DOOR_SETS; i++) {
                ways[pin][i] = 0;
            }
            for (int next = 0; next < law.depths; next++) {
                int holding = board.doorsHolding(pin + 1, next);
                for (int depth = 0; depth < law.depths; depth++) {
                    if (law.mayFollow(depth, next)) {
                        addWays(pin, depth, next, holding);
                    }
                }
            }
        }

        private void addWays(int pin, int depth, int next, int holding) {
            for (int fitted = 0; fitted < DOOR_SETS; fitted++) {
                ways[pin][state(depth, fitted)] += ways[pin + 1][state(next, fitted & holding)];
            }
        }

        private static int state(int depth, int fitted) {
            return depth * DOOR_SETS + fitted;
        }
    }
}
