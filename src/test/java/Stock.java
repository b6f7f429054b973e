/** Docks that tests of boundary cases start from. */
final class Stock {
    /** A place's kind for each kind of row of things, from GRID (3) to TIN STACK (8). */
    private static final int[] HELD = {0, 9, 10, 11, 4, 5};

    private Stock() { }

    /**
     * A thing of each kind at the slot of its kind's number, each row of two places without a hole. One
     * call was turned back: told() tells 1, 9, 3 and fault() TURNED, so that a change of either is seen.
     */
    static DockGates ofAllKinds() {
        DockGates dock = new DockGates();
        standAll(dock);
        return dock;
    }

    /** The same with 60 things: 48 that stand nowhere come first. */
    static DockGates ofSixty() {
        DockGates dock = new DockGates();
        for (int number = 0; number < 48; number++) {
            dock.make(9, 1, 0);
        }
        standAll(dock);
        return dock;
    }

    private static void standAll(DockGates dock) {
        for (int kind = 0; kind < 12; kind++) {
            dock.make(kind, kind < 9 ? 2 : 10 * kind, kind);
        }
        for (int row = 0; row < 3; row++) {
            dock.put(row, 0, 30 + row);
            dock.put(row, 1, 40 + row);
        }
        for (int row = 3; row < 9; row++) {
            dock.lay(row, 0, HELD[row - 3]);
            dock.lay(row, 1, HELD[row - 3]);
        }
        dock.pass(9, 3);
    }

    /** A dock with one thing at slot 0, its number 0. */
    static DockGates ofOne(int kind, int n) {
        DockGates dock = new DockGates();
        dock.make(kind, n, 0);
        return dock;
    }

    /** A row of loads at slot 0, each place of which holds the one load at slot 1. */
    static DockGates ofRow(int rowKind, int places, int loadKind, int amount) {
        DockGates dock = ofOne(rowKind, places);
        dock.make(loadKind, amount, 1);
        layAll(dock, 0, places, 1);
        return dock;
    }

    /** A stack of 8 rows at slot 0, of one row of 8 at slot 1, of one load at slot 2. */
    static DockGates ofStack(int stackKind, int rowKind, int loadKind, int amount) {
        DockGates dock = ofOne(stackKind, 8);
        dock.make(rowKind, 8, 1);
        dock.make(loadKind, amount, 2);
        layAll(dock, 1, 8, 2);
        layAll(dock, 0, 8, 1);
        return dock;
    }

    static void layAll(DockGates dock, int to, int places, int from) {
        for (int i = 0; i < places; i++) {
            dock.lay(to, i, from);
        }
    }

    static void putAll(DockGates dock, int slot, int places, long v) {
        for (int i = 0; i < places; i++) {
            dock.put(slot, i, v);
        }
    }
}
