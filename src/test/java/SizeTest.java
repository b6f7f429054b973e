/** Promise 14: size. */
public final class SizeTest {
    public static void main(String[] args) {
        Dues dues = new Dues();
        everyRow(dues);
        noRow(dues);
        wrongArguments(dues);
        dues.end();
    }

    private static void everyRow(Dues dues) {
        for (int kind = 0; kind < 9; kind++) {
            DockGates dock = new DockGates();
            for (int n = 0; n <= 8; n++) {
                dock.make(kind, n, 6);
                dues.fine(dock, "size of kind " + kind, dock.size(6), n);
            }
            dues.told(dock, "after size", 0, DockGates.NONE, DockGates.NONE);
        }
    }

    private static void noRow(Dues dues) {
        for (int kind = 9; kind < 12; kind++) {
            DockGates dock = new DockGates();
            dock.make(kind, 5, kind);
            dues.turned(dock, "size of kind " + kind, dock.size(kind), 1, kind, 8);
        }
    }

    private static void wrongArguments(Dues dues) {
        DockGates dock = new DockGates();
        dues.fault(dock, "size of nothing", dock.size(0), Dues.NULL);
        dues.fine(dock, "size(-1)", dock.size(-1), DockGates.BAD);
        dock.size(0);
        dues.fine(dock, "size(12)", dock.size(12), DockGates.BAD);
        dues.told(dock, "after NULL and BAD", 0, DockGates.NONE, DockGates.NONE);
    }
}
