import java.lang.reflect.Array;
import java.util.ArrayList;
import java.util.List;

/**
 * All promises together: long runs of calls beside a model that holds real Java rows and asks Java's own
 * types what fits, so that it shares no table with the class.
 */
public final class ModelTest {
    /** A step asks at most three calls, and each look at all 16 more: a run stays within the 512 calls. */
    private static final int RUNS = 12000, STEPS = 120, STEPS_A_LOOK = 15;

    private interface Load { int weighs(); }

    private static class Crate implements Load {
        int weight;
        public int weighs() { return weight; }
    }

    private static final class Tin extends Crate {
        boolean shut;
        @Override public int weighs() { return weight + (shut ? 1 : 0); }
    }

    private static final class Barrel implements Load {
        int litres;
        public int weighs() { return 2 * litres; }
    }

    private static final Class<?>[] GATES = {int[].class, byte[].class, long[].class, int[][].class,
        Crate[].class, Tin[].class, Load[].class, Crate[][].class, Tin[][].class,
        Crate.class, Tin.class, Barrel.class, Load.class};

    private final Object[] slots = new Object[12];
    private final List<Object> things = new ArrayList<>();
    private int fault, turns, turnedSlot = -1, turnedGate = -1;
    private long seed;

    public static void main(String[] args) {
        Dues dues = new Dues();
        for (int run = 0; run < RUNS; run++) {
            new ModelTest(run).run(dues, run);
        }
        dues.end();
    }

    private ModelTest(int run) {
        seed = run * 7919L + 17;
    }

    private void run(Dues dues, int run) {
        DockGates dock = new DockGates();
        for (int step = 1; step <= STEPS; step++) {
            String name = "run " + run + " step " + step;
            // Things come first, so that later calls seldom meet slots with nothing.
            step(dues, dock, name, step < 20 ? 0 : below(17));
            dues.due(name + " fault()", dock.fault(), fault);
            if (step % STEPS_A_LOOK == 0) {
                lookAtAll(dues, dock, name);
            }
        }
    }

    private void lookAtAll(Dues dues, DockGates dock, String name) {
        dues.told(dock, name, turns, turnedSlot, turnedGate);
        dues.due(name + " count()", dock.count(), things.size());
        for (int slot = 0; slot < 12; slot++) {
            dues.due(name + " at(" + slot + ")", dock.at(slot), number(slots[slot]));
        }
    }

    private void step(Dues dues, DockGates dock, String name, int which) {
        int a = slot(), b = slot(), i = below(10) == 0 ? below(12) - 2 : below(2), gate = gate();
        long v = number();
        fault = 0;
        switch (which) {
            case 0, 1 -> {
                int kind = below(40) == 0 ? below(16) - 2 : below(12);
                int n = below(20) == 0 ? below(12) - 2 : kind > 8 && below(4) == 0 ? below(1000003) : below(3);
                dues.due(name + " make", dock.make(kind, n, a), make(kind, n, a));
            }
            case 2 -> dues.due(name + " fits", dock.fits(a, gate), bad(a, b(gate)) ? -2 : fits(slots[a], gate) ? 1 : 0);
            case 3, 4 -> {
                a = below(4) == 0 || b(gate) < 0 ? a : slotOf(GATES[gate]);
                dues.due(name + " pass", dock.pass(a, gate), pass(a, gate));
            }
            case 5 -> {
                int last = gate();
                dues.due(name + " seek", dock.seek(a, gate, last), seek(a, gate, last));
            }
            case 6 -> {
                a = below(4) == 0 ? a : slotOf(GATES[below(3)]);
                dues.due(name + " put", dock.put(a, i, v), put(a, i, v));
            }
            case 7 -> {
                a = below(4) == 0 ? a : slotOf(GATES[below(3)]);
                dues.due(name + " get", dock.get(a, i), get(a, i));
            }
            case 8, 9, 10, 11 -> {
                a = below(8) == 0 ? a : slotOf(GATES[3 + below(6)]);
                b = below(4) == 0 ? b : slotOf(partOf(a));
                dues.due(name + " lay", dock.lay(a, i, b), lay(a, i, b));
            }
            case 12 -> {
                a = below(4) == 0 ? a : slotOf(Object[].class);
                dues.due(name + " take", dock.take(a, i, b), take(a, i, b));
            }
            case 13 -> {
                a = below(4) == 0 ? a : slotOf(Object.class);
                dues.due(name + " share", dock.share(a, b), bad(a, b) ? -2 : number(slots[b] = slots[a]));
            }
            case 14 -> {
                boolean shut = below(3) != 0;
                a = below(3) == 0 ? a : slotOf(Tin.class);
                dues.due(name + " lid", dock.lid(a, shut), lid(a, shut));
            }
            case 15 -> {
                int weight = below(9) == 0 ? below(3) - 2 : below(1000004);
                dues.due(name + " weigh", dock.weigh(a, weight), weigh(a, weight));
            }
            default -> {
                dues.due(name + " size", dock.size(a), size(a));
                if (below(4) == 0) {
                    fault = 0;
                    int was = bad(b, 0) ? -2 : number(slots[b]);
                    dues.due(name + " empty", dock.empty(b), was);
                    if (!bad(b, 0)) {
                        slots[b] = null;
                    }
                }
            }
        }
    }

    private int make(int kind, int n, int slot) {
        if (kind < 0 || kind > 11 || bad(slot, 0) || n < 0 || n > (kind < 9 ? 8 : 1000000)) {
            return -2;
        }
        if (things.size() == 60) {
            return -3;
        }
        Object thing;
        if (kind < 9) {
            thing = Array.newInstance(GATES[kind].getComponentType(), n);
        } else if (kind == 11) {
            Barrel barrel = new Barrel();
            barrel.litres = n;
            thing = barrel;
        } else {
            Crate crate = kind == 9 ? new Crate() : new Tin();
            crate.weight = n;
            thing = crate;
        }
        things.add(thing);
        slots[slot] = thing;
        return things.size() - 1;
    }

    private long pass(int slot, int gate) {
        if (bad(slot, b(gate))) {
            fault = -2;
            return 0;
        }
        if (slots[slot] == null) {
            return fail(2);
        }
        if (!fits(slots[slot], gate)) {
            return turn(slot, gate);
        }
        Long told = tell(slots[slot], gate);
        return told == null ? fail(4) : told;
    }

    /** What a thing tells at a gate that it fits; null: it has a hole. */
    private static Long tell(Object thing, int gate) {
        switch (gate) {
            case 9: return (long) ((Crate) thing).weight;
            case 10: return ((Tin) thing).shut ? 1L : 0L;
            case 11: return (long) ((Barrel) thing).litres;
            case 12: return (long) ((Load) thing).weighs();
            default: break;
        }
        int[] partGates = {-1, -1, -1, 0, 12, 10, 12, 4, 5};
        int intSum = 0;
        long longSum = 0;
        for (int i = 0; i < Array.getLength(thing); i++) {
            Object part = Array.get(thing, i);
            if (part == null) {
                return null;
            }
            Long told = gate < 3 ? Long.valueOf(((Number) part).longValue()) : tell(part, partGates[gate]);
            if (told == null) {
                return null;
            }
            intSum += (int) (long) told;
            longSum += told;
        }
        return gate == 2 ? longSum : intSum;
    }

    private int seek(int slot, int first, int last) {
        if (bad(slot, b(first)) || bad(slot, b(last)) || last < first) {
            return -2;
        }
        for (int gate = first; gate <= last; gate++) {
            if (fits(slots[slot], gate)) {
                return gate;
            }
            turn(slot, gate);
            fault = 0;
        }
        return -1;
    }

    private int put(int slot, int i, long v) {
        if (bad(slot, 0)) {
            return -2;
        }
        int failed = numberRow(slot, i);
        if (failed != 0) {
            return 0;
        }
        if (slots[slot] instanceof int[] counts) {
            counts[i] = (int) v;
        } else if (slots[slot] instanceof byte[] marks) {
            marks[i] = (byte) v;
        } else {
            ((long[]) slots[slot])[i] = v;
        }
        return 1;
    }

    private long get(int slot, int i) {
        if (bad(slot, 0)) {
            fault = -2;
            return 0;
        }
        return numberRow(slot, i) != 0 ? 0 : Array.getLong(slots[slot], i);
    }

    private int numberRow(int slot, int i) {
        Object row = slots[slot];
        if (row == null) {
            fail(2);
        } else if (!fits(row, 0) && !fits(row, 1) && !fits(row, 2)) {
            turn(slot, 2);
        } else if (i < 0 || i >= Array.getLength(row)) {
            fail(3);
        }
        return fault;
    }

    private int lay(int to, int i, int from) {
        if (bad(to, from)) {
            return -2;
        }
        Object row = slots[to];
        Object laid = slots[from];
        if (row == null) {
            return fail(2);
        }
        if (!(row instanceof Object[] places)) {
            return turn(to, 6);
        }
        int gate = row instanceof int[][] ? 0 : row instanceof Crate[][] ? 4 : 12;
        if (laid != null && !fits(laid, gate)) {
            return turn(from, gate);
        }
        if (i < 0 || i >= places.length) {
            return fail(3);
        }
        if (laid != null && !row.getClass().getComponentType().isInstance(laid)) {
            return fail(5);
        }
        places[i] = laid;
        return 1;
    }

    private int take(int from, int i, int to) {
        if (bad(from, to)) {
            return -2;
        }
        if (slots[from] == null) {
            return fail(2);
        }
        if (!(slots[from] instanceof Object[] places)) {
            return turn(from, 6);
        }
        if (i < 0 || i >= places.length) {
            return fail(3);
        }
        slots[to] = places[i];
        return number(slots[to]);
    }

    private int lid(int slot, boolean shut) {
        if (bad(slot, 0)) {
            return -2;
        }
        if (slots[slot] == null) {
            return fail(2);
        }
        if (!(slots[slot] instanceof Tin tin)) {
            return turn(slot, 10);
        }
        boolean was = tin.shut;
        tin.shut = shut;
        return was ? 1 : 0;
    }

    private int weigh(int slot, int weight) {
        if (bad(slot, 0) || weight < 0 || weight > 1000000) {
            return -2;
        }
        if (slots[slot] == null) {
            return fail(2);
        }
        if (!(slots[slot] instanceof Crate crate)) {
            return turn(slot, 9);
        }
        int was = crate.weight;
        crate.weight = weight;
        return was;
    }

    private int size(int slot) {
        if (bad(slot, 0)) {
            return -2;
        }
        if (slots[slot] == null) {
            return fail(2);
        }
        return slots[slot].getClass().isArray() ? Array.getLength(slots[slot]) : turn(slot, 8);
    }

    private int fail(int what) {
        fault = what;
        return 0;
    }

    private int turn(int slot, int gate) {
        turns++;
        turnedSlot = slot;
        turnedGate = gate;
        return fail(1);
    }

    private static boolean fits(Object thing, int gate) {
        return GATES[gate].isInstance(thing);
    }

    /** Whether one of two slots is none. */
    private static boolean bad(int slot, int other) {
        return slot < 0 || slot > 11 || other < 0 || other > 11;
    }

    /** A gate as a slot that is one just when the gate is one. */
    private static int b(int gate) {
        return gate < 0 || gate > 12 ? -1 : 0;
    }

    private int number(Object thing) {
        for (int number = 0; number < things.size(); number++) {
            if (things.get(number) == thing) {
                return number;
            }
        }
        return -1;
    }

    /** A slot whose thing is of a type, or any if there is none. */
    private int slotOf(Class<?> type) {
        int start = below(12);
        for (int k = 0; k < 12; k++) {
            if (type.isInstance(slots[(start + k) % 12])) {
                return (start + k) % 12;
            }
        }
        return start;
    }

    /** The type of what the row at a slot can hold. */
    private Class<?> partOf(int slot) {
        return !bad(slot, 0) && slots[slot] instanceof Object[] row ? row.getClass().getComponentType() : Load.class;
    }

    private int slot() {
        return below(60) == 0 ? below(16) - 2 : below(12);
    }

    private int gate() {
        return below(40) == 0 ? below(17) - 2 : below(13);
    }

    private long number() {
        long v = ((long) below(1 << 30) << 34) ^ ((long) below(1 << 30) << 8) ^ below(256);
        return below(3) == 0 ? v : v >> 32;
    }

    /** A fixed sequence, so that each run of the test is the same. */
    private int below(int bound) {
        seed = seed * 6364136223846793005L + 1442695040888963407L;
        return (int) ((seed >>> 33) % bound);
    }
}
