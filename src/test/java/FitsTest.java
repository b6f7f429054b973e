/** Promise 3: fits. */
public final class FitsTest {
    /** A line for each kind, a column for each gate: x where it fits. */
    private static final String[] TABLE = {
        "x............",
        ".x...........",
        "..x..........",
        "...x.........",
        "....x.x......",
        "....xxx......",
        "......x......",
        ".......x.....",
        ".......xx....",
        ".........x..x",
        ".........xx.x",
        "...........xx",
    };

    public static void main(String[] args) {
        Dues dues = new Dues();
        everyKindAtEveryGate(dues);
        nothingFitsNone(dues);
        wrongSlotsAndGates(dues);
        dues.end();
    }

    private static void everyKindAtEveryGate(Dues dues) {
        dues.of("Whether what stands at a SLOT FITS a GATE: 1, 0");
        for (int kind = 0; kind < 12; kind++) {
            DockGates dock = new DockGates();
            dock.make(kind, 2, 11);
            for (int gate = 0; gate < 13; gate++) {
                int want = TABLE[kind].charAt(gate) == 'x' ? 1 : 0;
                dues.fine(dock, "kind " + kind + " at gate " + gate, dock.fits(11, gate), want);
            }
            dues.told(dock, "after fits alone", 0, DockGates.NONE, DockGates.NONE);
        }
    }

    private static void nothingFitsNone(Dues dues) {
        dues.of("fits: NOTHING FITS none");
        for (int slot = 0; slot < 12; slot++) {
            DockGates dock = new DockGates();
            for (int gate = 0; gate < 13; gate++) {
                dock.get(-1, 0);
                dues.fine(dock, "nothing at gate " + gate, dock.fits(slot, gate), 0);
            }
            dues.told(dock, "after fits of nothing", 0, DockGates.NONE, DockGates.NONE);
        }
    }

    private static void wrongSlotsAndGates(Dues dues) {
        dues.of("fits: BAD");
        DockGates dock = Stock.ofAllKinds();
        for (int slot : Dues.NO_SLOTS) {
            for (int gate = -1; gate <= 13; gate++) {
                dock.size(9);
                dues.fine(dock, "fits(" + slot + ", " + gate + ")", dock.fits(slot, gate), DockGates.BAD);
            }
        }
        for (int gate : Dues.NO_GATES) {
            for (int slot = 0; slot < 12; slot++) {
                dock.size(9);
                dues.fine(dock, "fits(" + slot + ", " + gate + ")", dock.fits(slot, gate), DockGates.BAD);
            }
        }
    }
}
