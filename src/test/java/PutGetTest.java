/** Promises 6 and 7: put and get. */
public final class PutGetTest {
    private static final int NONE = DockGates.NONE, BAD = DockGates.BAD;

    public static void main(String[] args) {
        Dues dues = new Dues();
        lowest32Bits(dues);
        lowest8Bits(dues);
        all64Bits(dues);
        placesAreApart(dues);
        nothingIsNull(dues);
        otherKindsAreTurned(dues);
        turnedOnceByGateTwo(dues);
        outside(dues);
        wrongSlots(dues);
        dues.end();
    }

    private static void lowest32Bits(Dues dues) {
        dues.of("PLACE i of COUNTS becomes v (its lowest 32 bits): 1");
        long two31 = 1L << 31, two32 = 1L << 32;
        long[][] putAndGot = {{0, 0}, {1, 1}, {-1, -1}, {two31 - 1, two31 - 1}, {two31, -two31}, {-two31, -two31},
            {-two31 - 1, two31 - 1}, {two32 - 1, -1}, {two32, 0}, {two32 + 5, 5}, {255, 255}, {-129, -129},
            {Long.MAX_VALUE, -1}, {Long.MIN_VALUE, 0}, {0x123456789abcdef0L, 0xffffffff9abcdef0L}};
        putAndGet(dues, 0, putAndGot);
    }

    private static void lowest8Bits(Dues dues) {
        dues.of("PLACE i of MARKS becomes v (its lowest 8 bits): 1");
        long[][] putAndGot = {{0, 0}, {1, 1}, {-1, -1}, {127, 127}, {128, -128}, {-128, -128}, {-129, 127},
            {255, -1}, {256, 0}, {257, 1}, {-256, 0}, {1L << 32, 0}, {(1L << 32) + 200, -56},
            {Long.MAX_VALUE, -1}, {Long.MIN_VALUE, 0}, {0x123456789abcdef0L, -16}};
        putAndGet(dues, 1, putAndGot);
    }

    private static void all64Bits(Dues dues) {
        dues.of("PLACE i of SHARES becomes v (its lowest 64 bits): 1");
        long[] values = {0, 1, -1, 255, 1L << 31, -(1L << 31) - 1, 1L << 32, (1L << 32) + 5, Long.MAX_VALUE,
            Long.MIN_VALUE, 0x123456789abcdef0L};
        long[][] putAndGot = new long[values.length][];
        for (int k = 0; k < values.length; k++) {
            putAndGot[k] = new long[] {values[k], values[k]};
        }
        putAndGet(dues, 2, putAndGot);
    }

    private static void putAndGet(Dues dues, int kind, long[][] putAndGot) {
        for (int i = 0; i < 8; i += 7) {
            DockGates dock = Stock.ofOne(kind, 8);
            for (long[] pair : putAndGot) {
                dock.size(5);
                dues.fine(dock, "put of " + pair[0] + " at " + i, dock.put(0, i, pair[0]), 1);
                dock.size(5);
                dues.fine(dock, "get of " + pair[0] + " at " + i, dock.get(0, i), pair[1]);
                dues.due("pass of " + pair[0] + " at " + i, dock.pass(0, kind), pair[1]);
            }
        }
    }

    private static void placesAreApart(Dues dues) {
        dues.of("get: PLACE i of such a row");
        for (int kind = 0; kind < 3; kind++) {
            DockGates dock = Stock.ofOne(kind, 8);
            dock.share(0, 1);
            for (int i = 0; i < 8; i++) {
                dues.fine(dock, "number at first", dock.get(0, i), 0);
                dock.put(0, i, i + 10);
            }
            for (int i = 0; i < 8; i++) {
                dues.fine(dock, "number of the same row at another slot", dock.get(1, i), i + 10);
            }
        }
    }

    private static void nothingIsNull(Dues dues) {
        dues.of("put, get: NULL");
        DockGates dock = new DockGates();
        int[] places = {-1, 0, 7, 8};
        for (int i : places) {
            dues.fault(dock, "put at place " + i + " of nothing", dock.put(0, i, 1), Dues.NULL);
            dock.fits(0, 0);
            dues.fault(dock, "get of place " + i + " of nothing", dock.get(11, i), Dues.NULL);
        }
        dues.told(dock, "after NULL", 0, NONE, NONE);
    }

    private static void otherKindsAreTurned(Dues dues) {
        dues.of("put, get: TURNED (by GATE 2)");
        for (int kind = 3; kind < 12; kind++) {
            DockGates dock = new DockGates();
            dock.make(kind, 1, kind);
            // A place that no row has shows that TURNED is met ahead of OUTSIDE.
            dues.turned(dock, "put at kind " + kind, dock.put(kind, 99, 1), 1, kind, 2);
            dues.turned(dock, "get at kind " + kind, dock.get(kind, 99), 2, kind, 2);
            dues.turned(dock, "put at place 0 of kind " + kind, dock.put(kind, 0, 1), 3, kind, 2);
            dues.turned(dock, "get at place 0 of kind " + kind, dock.get(kind, 0), 4, kind, 2);
        }
    }

    private static void turnedOnceByGateTwo(Dues dues) {
        dues.of("put, get: TURNED by the last of the three that is tried: what FITS one of them is not TURNED");
        for (int kind = 0; kind < 3; kind++) {
            DockGates dock = Stock.ofOne(kind, 1);
            dock.put(0, 0, 1);
            dock.get(0, 0);
            dues.told(dock, "after put and get at kind " + kind, 0, NONE, NONE);
        }
    }

    private static void outside(Dues dues) {
        dues.of("put, get: OUTSIDE");
        for (int kind = 0; kind < 3; kind++) {
            for (int n = 0; n <= 8; n++) {
                DockGates dock = Stock.ofOne(kind, n);
                Stock.putAll(dock, 0, n, 6);
                int[] places = {-1, n, n + 1, 8, Integer.MIN_VALUE, Integer.MAX_VALUE};
                for (int i : places) {
                    dues.fault(dock, "put at " + i + " of " + n, dock.put(0, i, 9), Dues.OUTSIDE);
                    dock.fits(0, 0);
                    dues.fault(dock, "get at " + i + " of " + n, dock.get(0, i), Dues.OUTSIDE);
                }
                dues.fine(dock, "sum of what was put before", dock.pass(0, kind), 6 * n);
                dues.told(dock, "after OUTSIDE", 0, NONE, NONE);
            }
        }
    }

    private static void wrongSlots(Dues dues) {
        DockGates dock = Stock.ofAllKinds();
        for (int slot : Dues.NO_SLOTS) {
            dues.of("put: BAD");
            dock.size(9);
            dues.fine(dock, "put at slot " + slot, dock.put(slot, 0, 1), BAD);
            dues.fine(dock, "put at no place of slot " + slot, dock.put(slot, -1, 1), BAD);
            dues.of("get: 0 of BAD, which fault() tells");
            dues.fault(dock, "get at slot " + slot, dock.get(slot, 0), BAD);
            dues.fault(dock, "get at no place of slot " + slot, dock.get(slot, -1), BAD);
        }
    }
}
