/** Promise 9: take. */
public final class TakeTest {
    private static final int[] HELD = {0, 9, 10, 11, 4, 5};

    public static void main(String[] args) {
        Dues dues = new Dues();
        everyRowGivesWhatItHolds(dues);
        sameThingStandsAtBoth(dues);
        noSuchRow(dues);
        outside(dues);
        wrongArguments(dues);
        dues.end();
    }

    private static void everyRowGivesWhatItHolds(Dues dues) {
        for (int row = 3; row < 9; row++) {
            DockGates dock = new DockGates();
            dock.make(row, 2, 0);
            dock.make(HELD[row - 3], 1, 1);
            dock.lay(0, 1, 1);
            dues.fine(dock, "take of kind " + row, dock.take(0, 1, 5), 1);
            dues.due("at(5)", dock.at(5), 1);
            dues.fine(dock, "take once more", dock.take(0, 1, 6), 1);
            dues.fine(dock, "take of nothing", dock.take(0, 0, 5), DockGates.NONE);
            dues.due("at(5)", dock.at(5), DockGates.NONE);
            dues.fine(dock, "take onto the row's own slot", dock.take(0, 1, 0), 1);
            dues.due("at(0)", dock.at(0), 1);
        }
    }

    private static void sameThingStandsAtBoth(Dues dues) {
        DockGates dock = new DockGates();
        dock.make(6, 1, 0);
        dock.make(10, 5, 1);
        dock.lay(0, 0, 1);
        dock.empty(1);
        dock.take(0, 0, 2);
        dock.weigh(2, 40);
        dock.lid(2, true);
        dues.due("what the row weighs", dock.pass(0, 6), 41);
    }

    private static void noSuchRow(Dues dues) {
        int[] kinds = {0, 1, 2, 9, 10, 11};
        for (int kind : kinds) {
            DockGates dock = new DockGates();
            dock.make(kind, 1, 4);
            dock.make(9, 1, 5);
            dues.turned(dock, "take of kind " + kind, dock.take(4, 0, 5), 1, 4, 6);
            dues.turned(dock, "TURNED ahead of OUTSIDE", dock.take(4, 99, 5), 2, 4, 6);
            dues.due("at(5)", dock.at(5), 1);
        }
    }

    private static void outside(Dues dues) {
        for (int row = 3; row < 9; row++) {
            DockGates dock = new DockGates();
            dock.make(row, 2, 0);
            dock.make(9, 1, 5);
            int[] places = {-1, 2, 8, Integer.MIN_VALUE, Integer.MAX_VALUE};
            for (int i : places) {
                dues.fault(dock, "take at " + i, dock.take(0, i, 5), Dues.OUTSIDE);
            }
            dues.due("at(5)", dock.at(5), 1);
            dock.make(row, 0, 0);
            dues.fault(dock, "take of a row of none", dock.take(0, 0, 5), Dues.OUTSIDE);
        }
    }

    private static void wrongArguments(Dues dues) {
        DockGates dock = new DockGates();
        dock.make(6, 1, 0);
        dock.make(9, 1, 5);
        dues.fault(dock, "take of nothing's place", dock.take(1, 0, 5), Dues.NULL);
        dues.due("at(5)", dock.at(5), 1);
        int[][] wrong = {{-1, 0, 0}, {12, 0, 0}, {0, 0, -1}, {0, 0, 12}, {1, 0, 12}};
        for (int[] call : wrong) {
            dock.size(7);
            dues.fine(dock, "take(" + call[0] + ", " + call[1] + ", " + call[2] + ")",
                    dock.take(call[0], call[1], call[2]), DockGates.BAD);
        }
    }
}
