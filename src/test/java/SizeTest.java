/** Promise 14: size. */
public final class SizeTest {
    private static final int NONE = DockGates.NONE, BAD = DockGates.BAD;

    public static void main(String[] args) {
        Dues dues = new Dues();
        everyRow(dues);
        sizeIsOfPlacesNotOfWhatTheyHold(dues);
        ofNothing(dues);
        noRow(dues);
        noSlot(dues);
        dues.end();
    }

    private static void everyRow(Dues dues) {
        dues.of("How many PLACES the row at a SLOT has (any of KINDS 0 to 8)");
        for (int kind = 0; kind < 9; kind++) {
            DockGates dock = new DockGates();
            for (int n = 0; n <= 8; n++) {
                dock.make(kind, n, n);
            }
            for (int n = 0; n <= 8; n++) {
                dock.get(-1, 0);
                dues.fine(dock, "size of " + n + " of kind " + kind, dock.size(n), n);
            }
            dues.told(dock, "after size", 0, NONE, NONE);
        }
    }

    private static void sizeIsOfPlacesNotOfWhatTheyHold(Dues dues) {
        dues.of("size: How many PLACES (holes, too)");
        int[] held = {0, 9, 10, 11, 4, 5};
        for (int kind = 3; kind < 9; kind++) {
            DockGates dock = Stock.ofOne(kind, 8);
            dues.due("size of kind " + kind + " of holes", dock.size(0), 8);
            dock.make(held[kind - 3], 1, 1);
            dock.lay(0, 7, 1);
            dues.due("size of kind " + kind + " with one place taken", dock.size(0), 8);
        }
    }

    private static void ofNothing(Dues dues) {
        dues.of("size: NULL");
        DockGates dock = Stock.ofAllKinds();
        for (int slot = 0; slot < 12; slot++) {
            dock.empty(slot);
            dues.fault(dock, "size(" + slot + ")", dock.size(slot), Dues.NULL);
        }
        dues.told(dock, "after NULL", 1, 9, 3);
    }

    private static void noRow(Dues dues) {
        dues.of("size: TURNED by GATE 8: it is no row");
        for (int kind = 9; kind < 12; kind++) {
            for (int amount = 0; amount <= 8; amount += 4) {
                DockGates dock = new DockGates();
                dock.make(kind, amount, kind);
                dues.turned(dock, "size of kind " + kind, dock.size(kind), 1, kind, 8);
            }
        }
    }

    private static void noSlot(Dues dues) {
        dues.of("size: BAD");
        DockGates dock = Stock.ofAllKinds();
        for (int slot : Dues.NO_SLOTS) {
            dock.size(9);
            dues.fine(dock, "size(" + slot + ")", dock.size(slot), BAD);
        }
        dues.told(dock, "after BAD", 5, 9, 8);
    }
}
