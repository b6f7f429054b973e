/** Promise 5: seek. */
public final class SeekTest {
    private static final int[] FIRST_GATE = {0, 1, 2, 3, 4, 4, 6, 7, 7, 9, 9, 11};

    public static void main(String[] args) {
        Dues dues = new Dues();
        firstGateOfAll(dues);
        partsOfTheGates(dues);
        nothingIsTurnedByEach(dues);
        wrongArguments(dues);
        dues.end();
    }

    private static void firstGateOfAll(Dues dues) {
        for (int kind = 0; kind < 12; kind++) {
            DockGates dock = new DockGates();
            dock.make(kind, 3, 7);
            int want = FIRST_GATE[kind];
            dues.fine(dock, "seek of kind " + kind, dock.seek(7, 0, 12), want);
            boolean none = want == 0;
            dues.told(dock, "of kind " + kind, want, none ? DockGates.NONE : 7, none ? DockGates.NONE : want - 1);
        }
    }

    private static void partsOfTheGates(Dues dues) {
        DockGates dock = new DockGates();
        dock.make(5, 1, 2);
        dues.fine(dock, "seek(2, 6, 6)", dock.seek(2, 6, 6), 6);
        dues.told(dock, "after a first gate", 0, DockGates.NONE, DockGates.NONE);
        dues.fine(dock, "seek(2, 7, 12)", dock.seek(2, 7, 12), DockGates.NONE);
        dues.told(dock, "after none", 6, 2, 12);
        dues.fine(dock, "seek(2, 3, 3)", dock.seek(2, 3, 3), DockGates.NONE);
        dues.told(dock, "after one gate", 7, 2, 3);
        dues.fine(dock, "seek(2, 2, 5)", dock.seek(2, 2, 5), 4);
        dues.told(dock, "after two gates", 9, 2, 3);
        dock.pass(2, 0);
        dues.fine(dock, "seek after a fault", dock.seek(2, 5, 12), 5);
        dues.told(dock, "after a fault", 10, 2, 0);
    }

    private static void nothingIsTurnedByEach(Dues dues) {
        DockGates dock = new DockGates();
        dues.fine(dock, "seek of nothing", dock.seek(11, 0, 12), DockGates.NONE);
        dues.told(dock, "of nothing", 13, 11, 12);
    }

    private static void wrongArguments(Dues dues) {
        DockGates dock = new DockGates();
        dock.make(0, 1, 0);
        int[][] wrong = {{-1, 0, 12}, {12, 0, 12}, {0, -1, 12}, {0, 0, 13}, {0, 5, 4}, {0, 13, 13}, {0, -2, -1},
            {0, Integer.MIN_VALUE, Integer.MAX_VALUE}, {0, 12, 0}};
        for (int[] call : wrong) {
            dock.size(5);
            dues.fine(dock, "seek(" + call[0] + ", " + call[1] + ", " + call[2] + ")",
                    dock.seek(call[0], call[1], call[2]), DockGates.BAD);
        }
        dues.told(dock, "after BAD", 0, DockGates.NONE, DockGates.NONE);
    }
}
