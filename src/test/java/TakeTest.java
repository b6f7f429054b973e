/** Promise 9: take. */
public final class TakeTest {
    private static final int NONE = DockGates.NONE, BAD = DockGates.BAD;
    private static final int[] HELD = {0, 9, 10, 11, 4, 5};

    public static void main(String[] args) {
        Dues dues = new Dues();
        everyRowGivesWhatItHolds(dues);
        everyPlaceIsTaken(dues);
        nothingIsTaken(dues);
        sameThingStandsAtBoth(dues);
        ontoTheRowsOwnSlot(dues);
        rowIsNothing(dues);
        noSuchRow(dues);
        outside(dues);
        wrongSlots(dues);
        dues.end();
    }

    private static void everyRowGivesWhatItHolds(Dues dues) {
        dues.of("What PLACE i holds stands at a SLOT to: its number");
        for (int row = 3; row < 9; row++) {
            DockGates dock = Stock.ofOne(row, 2);
            dock.make(HELD[row - 3], 1, 1);
            dock.lay(0, 1, 1);
            dock.size(11);
            dues.fine(dock, "take of kind " + row, dock.take(0, 1, 5), 1);
            dues.due("at(5)", dock.at(5), 1);
            dues.fine(dock, "take once more", dock.take(0, 1, 6), 1);
            dues.due("at(6)", dock.at(6), 1);
            dues.due("at(0)", dock.at(0), 0);
        }
    }

    private static void everyPlaceIsTaken(Dues dues) {
        dues.of("take: PLACE i, the first to the last of 8");
        for (int row = 3; row < 9; row++) {
            DockGates dock = Stock.ofOne(row, 8);
            for (int i = 0; i < 8; i++) {
                dock.make(HELD[row - 3], 1, 1);
                dock.lay(0, i, 1);
            }
            for (int i = 0; i < 8; i++) {
                dues.fine(dock, "take of place " + i + " of kind " + row, dock.take(0, i, 11), 1 + i);
                dues.due("at(11)", dock.at(11), 1 + i);
            }
        }
    }

    private static void nothingIsTaken(Dues dues) {
        dues.of("take: (or NOTHING); NONE: NOTHING");
        for (int row = 3; row < 9; row++) {
            DockGates dock = Stock.ofOne(row, 8);
            for (int i = 0; i < 8; i += 7) {
                dock.make(9, 1, 5);
                dock.size(11);
                dues.fine(dock, "take of nothing of kind " + row, dock.take(0, i, 5), NONE);
                dues.due("at(5)", dock.at(5), NONE);
            }
            dues.fine(dock, "take of nothing onto the row's own slot", dock.take(0, 0, 0), NONE);
            dues.due("at(0)", dock.at(0), NONE);
        }
    }

    private static void sameThingStandsAtBoth(Dues dues) {
        dues.of("take: several may hold the same one");
        DockGates dock = Stock.ofOne(6, 1);
        dock.make(10, 5, 1);
        dock.lay(0, 0, 1);
        dock.empty(1);
        dock.take(0, 0, 2);
        dock.weigh(2, 40);
        dock.lid(2, true);
        dues.due("what the row weighs", dock.pass(0, 6), 41);
        dues.due("count()", dock.count(), 2);
    }

    private static void ontoTheRowsOwnSlot(Dues dues) {
        dues.of("take: stands at a SLOT to (that of the row itself)");
        for (int row = 3; row < 9; row++) {
            DockGates dock = Stock.ofOne(row, 1);
            dock.make(HELD[row - 3], 1, 1);
            dock.lay(0, 0, 1);
            dues.fine(dock, "take onto the row's own slot", dock.take(0, 0, 0), 1);
            dues.due("at(0)", dock.at(0), 1);
        }
    }

    private static void rowIsNothing(Dues dues) {
        dues.of("take: NULL");
        DockGates dock = Stock.ofAllKinds();
        dock.empty(6);
        int[] places = {-1, 0, 1, 8};
        for (int i : places) {
            dock.fits(0, 0);
            dues.fault(dock, "take of place " + i + " of nothing", dock.take(6, i, 5), Dues.NULL);
        }
        dues.due("at(5)", dock.at(5), 5);
        dues.told(dock, "after NULL", 1, 9, 3);
    }

    private static void noSuchRow(Dues dues) {
        dues.of("take: TURNED by GATE 6: no such row");
        int[] kinds = {0, 1, 2, 9, 10, 11};
        for (int kind : kinds) {
            DockGates dock = new DockGates();
            dock.make(kind, 1, 4);
            dock.make(9, 1, 5);
            dues.turned(dock, "take of kind " + kind, dock.take(4, 0, 5), 1, 4, 6);
            dues.turned(dock, "TURNED ahead of OUTSIDE", dock.take(4, 99, 5), 2, 4, 6);
            dues.due("at(5)", dock.at(5), 1);
        }
    }

    private static void outside(Dues dues) {
        dues.of("take: OUTSIDE");
        for (int row = 3; row < 9; row++) {
            for (int n = 0; n <= 8; n++) {
                DockGates dock = Stock.ofOne(row, n);
                dock.make(9, 1, 5);
                int[] places = {-1, n, n + 1, 8, Integer.MIN_VALUE, Integer.MAX_VALUE};
                for (int i : places) {
                    dock.fits(0, 0);
                    String call = "take at " + i + " of " + n + " of kind " + row;
                    dues.fault(dock, call, dock.take(0, i, 5), Dues.OUTSIDE);
                }
                dues.due("at(5)", dock.at(5), 1);
                dues.told(dock, "after OUTSIDE", 0, NONE, NONE);
            }
        }
    }

    private static void wrongSlots(Dues dues) {
        dues.of("take: BAD");
        DockGates dock = Stock.ofAllKinds();
        for (int slot : Dues.NO_SLOTS) {
            dock.size(9);
            dues.fine(dock, "take of slot " + slot, dock.take(slot, 0, 9), BAD);
            dock.size(9);
            dues.fine(dock, "take to slot " + slot, dock.take(6, 0, slot), BAD);
            dues.fine(dock, "take outside to slot " + slot, dock.take(6, 9, slot), BAD);
            dues.fine(dock, "take of a crate to slot " + slot, dock.take(9, 0, slot), BAD);
        }
        dues.due("at(9)", dock.at(9), 9);
    }
}
