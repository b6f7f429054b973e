/** Promises 6 and 7: put and get. */
public final class PutGetTest {
    public static void main(String[] args) {
        Dues dues = new Dues();
        lowestBitsAreKept(dues);
        placesAreApart(dues);
        outside(dues);
        otherKindsAreTurned(dues);
        wrongArguments(dues);
        dues.end();
    }

    private static void lowestBitsAreKept(Dues dues) {
        DockGates dock = new DockGates();
        dock.make(0, 1, 0);
        dock.make(1, 1, 1);
        dock.make(2, 1, 2);
        long[] values = {0, 1, -1, 127, 128, 255, 256, -129, 1L << 31, (1L << 32) + 5, Long.MIN_VALUE,
            Long.MAX_VALUE, 0x123456789abcdef0L};
        for (long v : values) {
            for (int slot = 0; slot < 3; slot++) {
                dues.fine(dock, "put(" + slot + ", 0, " + v + ")", dock.put(slot, 0, v), 1);
            }
            dues.fine(dock, "counts of " + v, dock.get(0, 0), (int) v);
            dues.fine(dock, "marks of " + v, dock.get(1, 0), (byte) v);
            dues.fine(dock, "shares of " + v, dock.get(2, 0), v);
        }
    }

    private static void placesAreApart(Dues dues) {
        for (int kind = 0; kind < 3; kind++) {
            DockGates dock = new DockGates();
            dock.make(kind, 8, 0);
            dock.share(0, 1);
            for (int i = 0; i < 8; i++) {
                dues.fine(dock, "number at first", dock.get(0, i), 0);
                dock.put(0, i, i + 10);
            }
            for (int i = 0; i < 8; i++) {
                dues.fine(dock, "number of the same row at another slot", dock.get(1, i), i + 10);
            }
        }
    }

    private static void outside(Dues dues) {
        for (int kind = 0; kind < 3; kind++) {
            DockGates dock = new DockGates();
            dock.make(kind, 2, 0);
            dock.make(kind, 0, 1);
            dock.put(0, 1, 6);
            int[] places = {-1, 2, 8, Integer.MIN_VALUE, Integer.MAX_VALUE};
            for (int i : places) {
                dues.fault(dock, "put at " + i, dock.put(0, i, 9), Dues.OUTSIDE);
                dues.fault(dock, "get at " + i, dock.get(0, i), Dues.OUTSIDE);
            }
            dues.fault(dock, "put at a row of none", dock.put(1, 0, 9), Dues.OUTSIDE);
            dues.fault(dock, "get at a row of none", dock.get(1, 0), Dues.OUTSIDE);
            dues.fine(dock, "what was put before", dock.get(0, 1), 6);
            dues.due("sum", dock.pass(0, kind), 6);
            dues.told(dock, "after OUTSIDE", 0, DockGates.NONE, DockGates.NONE);
        }
    }

    private static void otherKindsAreTurned(Dues dues) {
        for (int kind = 3; kind < 12; kind++) {
            DockGates dock = new DockGates();
            dock.make(kind, 1, kind);
            // A place that no row has shows that TURNED is met ahead of OUTSIDE.
            dues.turned(dock, "put at kind " + kind, dock.put(kind, 99, 1), 1, kind, 2);
            dues.turned(dock, "get at kind " + kind, dock.get(kind, 99), 2, kind, 2);
            dues.turned(dock, "put at place 0 of kind " + kind, dock.put(kind, 0, 1), 3, kind, 2);
            dues.turned(dock, "get at place 0 of kind " + kind, dock.get(kind, 0), 4, kind, 2);
        }
    }

    private static void wrongArguments(Dues dues) {
        DockGates dock = new DockGates();
        dues.fault(dock, "put at nothing", dock.put(0, 0, 1), Dues.NULL);
        dues.fault(dock, "get at nothing", dock.get(0, -1), Dues.NULL);
        dues.fine(dock, "put at slot -1", dock.put(-1, 0, 1), DockGates.BAD);
        dues.fine(dock, "put at slot 12", dock.put(12, 0, 1), DockGates.BAD);
        dues.fault(dock, "get at slot -1", dock.get(-1, 0), DockGates.BAD);
        dues.fault(dock, "get at slot 12", dock.get(12, 0), DockGates.BAD);
    }
}
