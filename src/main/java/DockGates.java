/** A dock of twelve slots, where things of twelve kinds stand and pass through gates. */
public final class DockGates {
    public static final int NONE = -1, BAD = -2, FULL = -3;

    private static final int SLOT_COUNT = 12, KIND_COUNT = 12, GATE_COUNT = 13;
    private static final int MOST_THINGS = 60, MOST_PLACES = 8, MOST_AMOUNT = 1000000;

    // The kinds; each is also the number of its own gate, and the last gate is of no kind.
    private static final int COUNTS = 0, MARKS = 1, SHARES = 2, GRID = 3, CRATES = 4, TINS = 5,
            LOADS = 6, STACK = 7, TIN_STACK = 8, CRATE = 9, TIN = 10, BARREL = 11, ANY_LOAD = 12;

    private static final int NO_FAULT = 0, TURNED = 1, NULL = 2, OUTSIDE = 3, HOLE = 4, UNFIT = 5;

    private final Thing[] slots;
    private int made;
    private int latestFault;
    private int turns;
    private int turnedSlot;
    private int turnedGate;

    public DockGates() {
        slots = new Thing[SLOT_COUNT];
        made = 0;
        latestFault = NO_FAULT;
        turns = 0;
        turnedSlot = NONE;
        turnedGate = NONE;
    }

    public int make(int kind, int n, int slot) {
        latestFault = NO_FAULT;
        if (!isKind(kind) || !isSlot(slot) || n < 0 || n > mostOf(kind)) {
            return BAD;
        }
        if (made >= MOST_THINGS) {
            return FULL;
        }
        int number = made;
        slots[slot] = new Thing(number, kind, n);
        made++;
        return number;
    }

    public int fits(int slot, int gate) {
        latestFault = NO_FAULT;
        if (!isSlot(slot) || !isGate(gate)) {
            return BAD;
        }
        return letsThrough(gate, slots[slot]) ? 1 : 0;
    }

    public long pass(int slot, int gate) {
        latestFault = NO_FAULT;
        if (!isSlot(slot) || !isGate(gate)) {
            return failed(BAD);
        }
        Thing thing = broughtThrough(gate, slot);
        if (thing == null) {
            return 0;
        }
        if (hasHole(thing)) {
            return failed(HOLE);
        }
        return toldBy(thing, gate);
    }

    public int seek(int slot, int first, int last) {
        latestFault = NO_FAULT;
        if (!isSlot(slot) || !isGate(first) || !isGate(last) || last < first) {
            return BAD;
        }
        for (int gate = first; gate <= last; gate++) {
            if (letsThrough(gate, slots[slot])) {
                return gate;
            }
            turnBack(slot, gate);
        }
        return NONE;
    }

    public int put(int slot, int i, long v) {
        latestFault = NO_FAULT;
        if (!isSlot(slot)) {
            return BAD;
        }
        Thing row = rowOfNumbers(slot);
        if (row == null) {
            return 0;
        }
        if (i < 0 || i >= row.numbers.length) {
            return failed(OUTSIDE);
        }
        row.numbers[i] = narrowed(row.kind, v);
        return 1;
    }

    public long get(int slot, int i) {
        latestFault = NO_FAULT;
        if (!isSlot(slot)) {
            return failed(BAD);
        }
        Thing row = rowOfNumbers(slot);
        if (row == null) {
            return 0;
        }
        if (i < 0 || i >= row.numbers.length) {
            return failed(OUTSIDE);
        }
        return row.numbers[i];
    }

    public int lay(int to, int i, int from) {
        latestFault = NO_FAULT;
        if (!isSlot(to) || !isSlot(from)) {
            return BAD;
        }
        Thing row = rowOfThings(to);
        if (row == null) {
            return 0;
        }
        Thing laid = slots[from];
        int gate = gateOfLaying(row.kind);
        if (laid != null && !letsThrough(gate, laid)) {
            return failedAtGate(from, gate);
        }
        if (i < 0 || i >= row.parts.length) {
            return failed(OUTSIDE);
        }
        if (laid != null && !letsThrough(gateOfPlaces(row.kind), laid)) {
            return failed(UNFIT);
        }
        row.parts[i] = laid;
        return 1;
    }

    public int take(int from, int i, int to) {
        latestFault = NO_FAULT;
        if (!isSlot(from) || !isSlot(to)) {
            return BAD;
        }
        Thing row = rowOfThings(from);
        if (row == null) {
            return 0;
        }
        if (i < 0 || i >= row.parts.length) {
            return failed(OUTSIDE);
        }
        slots[to] = row.parts[i];
        return numberOf(slots[to]);
    }

    public int share(int from, int to) {
        latestFault = NO_FAULT;
        if (!isSlot(from) || !isSlot(to)) {
            return BAD;
        }
        slots[to] = slots[from];
        return numberOf(slots[to]);
    }

    public int empty(int slot) {
        latestFault = NO_FAULT;
        if (!isSlot(slot)) {
            return BAD;
        }
        int number = numberOf(slots[slot]);
        slots[slot] = null;
        return number;
    }

    public int lid(int slot, boolean shut) {
        latestFault = NO_FAULT;
        if (!isSlot(slot)) {
            return BAD;
        }
        Thing tin = broughtThrough(TIN, slot);
        if (tin == null) {
            return 0;
        }
        int before = lidOf(tin);
        tin.shut = shut;
        return before;
    }

    public int weigh(int slot, int weight) {
        latestFault = NO_FAULT;
        if (!isSlot(slot) || weight < 0 || weight > MOST_AMOUNT) {
            return BAD;
        }
        Thing crate = broughtThrough(CRATE, slot);
        if (crate == null) {
            return 0;
        }
        int before = crate.amount;
        crate.amount = weight;
        return before;
    }

    public int size(int slot) {
        latestFault = NO_FAULT;
        if (!isSlot(slot)) {
            return BAD;
        }
        Thing row = slots[slot];
        if (row == null) {
            return failed(NULL);
        }
        if (holdsNumbers(row.kind)) {
            return row.numbers.length;
        }
        if (holdsThings(row.kind)) {
            return row.parts.length;
        }
        return failedAtGate(slot, TIN_STACK);
    }

    public int at(int slot) {
        return isSlot(slot) ? numberOf(slots[slot]) : BAD;
    }

    public int fault() {
        return latestFault;
    }

    public int told(int what) {
        switch (what) {
            case 0:
                return turns;
            case 1:
                return turnedSlot;
            case 2:
                return turnedGate;
            default:
                return BAD;
        }
    }

    public int count() {
        return made;
    }

    /** What stands at a slot, if it fits a gate; else null, and its fault is NULL or TURNED. */
    private Thing broughtThrough(int gate, int slot) {
        Thing thing = slots[slot];
        if (thing == null) {
            failed(NULL);
            return null;
        }
        if (!letsThrough(gate, thing)) {
            failedAtGate(slot, gate);
            return null;
        }
        return thing;
    }

    /** The row of numbers at a slot; else null, and its fault is NULL or TURNED. */
    private Thing rowOfNumbers(int slot) {
        Thing row = slots[slot];
        return row != null && holdsNumbers(row.kind) ? row : broughtThrough(SHARES, slot);
    }

    /** The row of things at a slot; else null, and its fault is NULL or TURNED. */
    private Thing rowOfThings(int slot) {
        Thing row = slots[slot];
        return row != null && holdsThings(row.kind) ? row : broughtThrough(LOADS, slot);
    }

    private int failed(int fault) {
        latestFault = fault;
        return 0;
    }

    private int failedAtGate(int slot, int gate) {
        turnBack(slot, gate);
        return failed(TURNED);
    }

    private void turnBack(int slot, int gate) {
        turns++;
        turnedSlot = slot;
        turnedGate = gate;
    }

    private static boolean isSlot(int slot) {
        return slot >= 0 && slot < SLOT_COUNT;
    }

    private static boolean isGate(int gate) {
        return gate >= 0 && gate < GATE_COUNT;
    }

    private static boolean isKind(int kind) {
        return kind >= 0 && kind < KIND_COUNT;
    }

    private static boolean holdsNumbers(int kind) {
        return kind >= COUNTS && kind <= SHARES;
    }

    private static boolean holdsThings(int kind) {
        return kind >= GRID && kind <= TIN_STACK;
    }

    private static int mostOf(int kind) {
        return holdsNumbers(kind) || holdsThings(kind) ? MOST_PLACES : MOST_AMOUNT;
    }

    private static int numberOf(Thing thing) {
        return thing == null ? NONE : thing.number;
    }

    private static boolean letsThrough(int gate, Thing thing) {
        if (thing == null) {
            return false;
        }
        int kind = thing.kind;
        if (kind == gate) {
            return true;
        }
        switch (gate) {
            case CRATES:
                return kind == TINS;
            case LOADS:
                return kind == TINS || kind == CRATES;
            case STACK:
                return kind == TIN_STACK;
            case CRATE:
                return kind == TIN;
            case ANY_LOAD:
                return kind == CRATE || kind == TIN || kind == BARREL;
            default:
                return false;
        }
    }

    /** The gate that turns back what is laid at a row of a kind, ahead of a look at its places. */
    private static int gateOfLaying(int rowKind) {
        switch (rowKind) {
            case GRID:
                return COUNTS;
            case STACK:
            case TIN_STACK:
                return CRATES;
            default:
                return ANY_LOAD;
        }
    }

    /** The gate that all fit that a row of a kind can hold: narrower than that of laying. */
    private static int gateOfPlaces(int rowKind) {
        switch (rowKind) {
            case CRATES:
                return CRATE;
            case TINS:
                return TIN;
            case TIN_STACK:
                return TINS;
            default:
                return gateOfLaying(rowKind);
        }
    }

    private static long narrowed(int rowKind, long v) {
        switch (rowKind) {
            case COUNTS:
                return (int) v;
            case MARKS:
                return (byte) v;
            default:
                return v;
        }
    }

    private static boolean hasHole(Thing thing) {
        for (Thing part : thing.parts) {
            if (part == null || lacksPart(part)) {
                return true;
            }
        }
        return false;
    }

    private static boolean lacksPart(Thing row) {
        for (Thing part : row.parts) {
            if (part == null) {
                return true;
            }
        }
        return false;
    }

    /** What a thing without a hole tells at a gate that it fits. */
    private static long toldBy(Thing thing, int gate) {
        switch (gate) {
            case GRID:
                // A sum of longs, cut to 32 bits at its end, is the sum of ints that wrap.
                return (int) toldByRows(thing, COUNTS);
            case STACK:
                return toldByRows(thing, CRATES);
            case TIN_STACK:
                return toldByRows(thing, TINS);
            case CRATE:
            case TIN:
            case BARREL:
            case ANY_LOAD:
                return toldByLoad(thing, gate);
            default:
                return toldByRow(thing, gate);
        }
    }

    private static long toldByRows(Thing stack, int rowGate) {
        long sum = 0;
        for (Thing row : stack.parts) {
            if (row != null) {
                sum += toldByRow(row, rowGate);
            }
        }
        return sum;
    }

    private static long toldByRow(Thing row, int gate) {
        switch (gate) {
            case COUNTS:
            case MARKS:
                return (int) sumOfNumbers(row);
            case SHARES:
                return sumOfNumbers(row);
            case TINS:
                return toldByLoads(row, TIN);
            default:
                return toldByLoads(row, ANY_LOAD);
        }
    }

    private static long sumOfNumbers(Thing row) {
        long sum = 0;
        for (long number : row.numbers) {
            sum += number;
        }
        return sum;
    }

    private static long toldByLoads(Thing row, int loadGate) {
        long sum = 0;
        for (Thing load : row.parts) {
            if (load != null) {
                sum += toldByLoad(load, loadGate);
            }
        }
        return sum;
    }

    private static int toldByLoad(Thing load, int gate) {
        switch (gate) {
            case TIN:
                return lidOf(load);
            case ANY_LOAD:
                return load.kind == BARREL ? 2 * load.amount : load.amount + lidOf(load);
            default:
                return load.amount;
        }
    }

    private static int lidOf(Thing load) {
        return load.shut ? 1 : 0;
    }

    /** A thing of any kind; what its kind does not have is empty, 0 or false. */
    private static final class Thing {
        final int number;
        final int kind;
        final long[] numbers;
        final Thing[] parts;
        /** The weight of a crate or a tin, the litres of a barrel. */
        int amount;
        boolean shut;

        /** The caller has tested n against the most that the kind may have. */
        Thing(int number, int kind, int n) {
            this.number = number;
            this.kind = kind;
            boolean ofNumbers = holdsNumbers(kind);
            boolean ofThings = holdsThings(kind);
            numbers = new long[ofNumbers ? n : 0];
            parts = new Thing[ofThings ? n : 0];
            amount = ofNumbers || ofThings ? 0 : n;
            shut = false;
        }
    }
}
