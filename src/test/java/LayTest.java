/** Promise 8: lay. */
public final class LayTest {
    /**
     * A line for each kind of row from GRID (3) to TIN STACK (8), a column for each kind that is laid:
     * 1 it is laid, u UNFIT, t TURNED.
     */
    private static final String[] TABLE = {
        "1ttttttttttt",
        "ttttttttt11u",
        "tttttttttu1u",
        "ttttttttt111",
        "tttt11tttttt",
        "ttttu1tttttt",
    };
    private static final int[] GATE = {0, 12, 12, 12, 4, 4};

    public static void main(String[] args) {
        Dues dues = new Dues();
        everyKindAtEveryRow(dues);
        nothingIsLaid(dues);
        noSuchRow(dues);
        orderOfFaults(dues);
        wrongArguments(dues);
        dues.end();
    }

    private static void everyKindAtEveryRow(Dues dues) {
        for (int row = 3; row < 9; row++) {
            for (int laid = 0; laid < 12; laid++) {
                DockGates dock = new DockGates();
                dock.make(row, 2, 1);
                dock.make(laid, 2, 10);
                String call = "lay of kind " + laid + " at kind " + row;
                int got = dock.lay(1, 1, 10);
                switch (TABLE[row - 3].charAt(laid)) {
                    case '1' -> dues.fine(dock, call, got, 1);
                    case 'u' -> dues.fault(dock, call, got, Dues.UNFIT);
                    default -> dues.turned(dock, call, got, 1, 10, GATE[row - 3]);
                }
                dues.due("place 1 after " + call, dock.take(1, 1, 0), got == 1 ? 1 : DockGates.NONE);
                dues.due("place 0 after " + call, dock.take(1, 0, 0), DockGates.NONE);
                dues.due("at(10) after " + call, dock.at(10), 1);
            }
        }
    }

    private static void nothingIsLaid(Dues dues) {
        int[] held = {0, 9, 10, 11, 4, 5};
        for (int row = 3; row < 9; row++) {
            DockGates dock = new DockGates();
            dock.make(row, 1, 0);
            dock.make(held[row - 3], 1, 1);
            dock.lay(0, 0, 1);
            dues.due("what is held", dock.take(0, 0, 2), 1);
            dues.fine(dock, "lay of nothing at kind " + row, dock.lay(0, 0, 3), 1);
            dues.due("what is held then", dock.take(0, 0, 2), DockGates.NONE);
            dues.fault(dock, "lay of nothing outside", dock.lay(0, 1, 3), Dues.OUTSIDE);
            dues.told(dock, "after nothing", 0, DockGates.NONE, DockGates.NONE);
        }
    }

    private static void noSuchRow(Dues dues) {
        int[] kinds = {0, 1, 2, 9, 10, 11};
        for (int kind : kinds) {
            DockGates dock = new DockGates();
            dock.make(kind, 1, 4);
            dock.make(9, 1, 5);
            dues.turned(dock, "lay at kind " + kind, dock.lay(4, 0, 5), 1, 4, 6);
            dues.turned(dock, "lay of nothing at kind " + kind, dock.lay(4, 99, 8), 2, 4, 6);
            dues.turned(dock, "lay of itself at kind " + kind, dock.lay(4, 0, 4), 3, 4, 6);
        }
    }

    private static void orderOfFaults(Dues dues) {
        DockGates dock = new DockGates();
        dock.make(5, 2, 0);
        dock.make(11, 1, 1);
        dock.make(2, 1, 2);
        dues.fault(dock, "NULL ahead of all", dock.lay(9, 99, 2), Dues.NULL);
        dues.turned(dock, "TURNED ahead of OUTSIDE", dock.lay(0, 99, 2), 1, 2, 12);
        int[] places = {-1, 2, 8, Integer.MIN_VALUE, Integer.MAX_VALUE};
        for (int i : places) {
            dues.fault(dock, "OUTSIDE ahead of UNFIT at " + i, dock.lay(0, i, 1), Dues.OUTSIDE);
        }
        dues.fault(dock, "UNFIT", dock.lay(0, 1, 1), Dues.UNFIT);
        dues.told(dock, "after one turn", 1, 2, 12);
        dock.make(10, 1, 3);
        dock.lay(0, 1, 3);
        dock.lay(0, 1, 1);
        dues.due("what an UNFIT leaves", dock.take(0, 1, 4), 3);
    }

    private static void wrongArguments(Dues dues) {
        DockGates dock = new DockGates();
        dock.make(6, 1, 0);
        int[][] wrong = {{-1, 0, 0}, {12, 0, 0}, {0, 0, -1}, {0, 0, 12}, {5, 0, 12}};
        for (int[] call : wrong) {
            dock.size(5);
            dues.fine(dock, "lay(" + call[0] + ", " + call[1] + ", " + call[2] + ")",
                    dock.lay(call[0], call[1], call[2]), DockGates.BAD);
        }
    }
}
