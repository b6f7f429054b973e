/** Promise 3: fits. */
public final class FitsTest {
    /** A line for each kind, a column for each gate: x where it fits. */
    private static final String[] TABLE = {
        "x............",
        ".x...........",
        "..x..........",
        "...x.........",
        "....x.x......",
        "....xxx......",
        "......x......",
        ".......x.....",
        ".......xx....",
        ".........x..x",
        ".........xx.x",
        "...........xx",
    };

    public static void main(String[] args) {
        Dues dues = new Dues();
        everyKindAtEveryGate(dues);
        nothingFitsNone(dues);
        wrongArguments(dues);
        dues.end();
    }

    private static void everyKindAtEveryGate(Dues dues) {
        for (int kind = 0; kind < 12; kind++) {
            DockGates dock = new DockGates();
            dock.make(kind, 2, 11);
            for (int gate = 0; gate < 13; gate++) {
                int want = TABLE[kind].charAt(gate) == 'x' ? 1 : 0;
                dues.fine(dock, "kind " + kind + " at gate " + gate, dock.fits(11, gate), want);
            }
            dues.told(dock, "after fits alone", 0, DockGates.NONE, DockGates.NONE);
        }
    }

    private static void nothingFitsNone(Dues dues) {
        DockGates dock = new DockGates();
        for (int gate = 0; gate < 13; gate++) {
            dues.fine(dock, "nothing at gate " + gate, dock.fits(0, gate), 0);
        }
        dues.told(dock, "after fits of nothing", 0, DockGates.NONE, DockGates.NONE);
    }

    private static void wrongArguments(Dues dues) {
        DockGates dock = new DockGates();
        dock.make(0, 0, 0);
        int[][] wrong = {{-1, 0}, {12, 0}, {0, -1}, {0, 13}, {Integer.MIN_VALUE, 0}, {0, Integer.MAX_VALUE}};
        for (int[] call : wrong) {
            dock.size(5);
            dues.fine(dock, "fits(" + call[0] + ", " + call[1] + ")", dock.fits(call[0], call[1]), DockGates.BAD);
        }
    }
}
