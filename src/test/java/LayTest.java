/** Promise 8: lay. */
public final class LayTest {
    private static final int NONE = DockGates.NONE, BAD = DockGates.BAD;
    /**
     * A line for each kind of row from GRID (3) to TIN STACK (8), a column for each kind that is laid:
     * 1 it is laid, u UNFIT, t TURNED.
     */
    private static final String[] TABLE = {
        "1ttttttttttt",
        "ttttttttt11u",
        "tttttttttu1u",
        "ttttttttt111",
        "tttt11tttttt",
        "ttttu1tttttt",
    };
    private static final int[] GATE = {0, 12, 12, 12, 4, 4};
    /** A kind that each row can hold. */
    private static final int[] HELD = {0, 9, 10, 11, 4, 5};
    private static final int[] NO_ROWS = {0, 1, 2, 9, 10, 11};

    public static void main(String[] args) {
        Dues dues = new Dues();
        everyKindAtEveryRow(dues);
        everyPlaceIsLaid(dues);
        rowHoldsTheThingItself(dues);
        nothingIsLaid(dues);
        rowIsNothing(dues);
        gridNeedsGateZero(dues);
        stacksNeedGateFour(dues);
        rowsOfLoadsNeedGateTwelve(dues);
        noSuchRow(dues);
        thenOutside(dues);
        thenUnfit(dues);
        unfitOfRowsOfNoPlace(dues);
        wrongSlots(dues);
        dues.end();
    }

    private static void everyKindAtEveryRow(Dues dues) {
        dues.of("lay: what each row takes, turns back and can't hold");
        for (int row = 3; row < 9; row++) {
            for (int laid = 0; laid < 12; laid++) {
                DockGates dock = new DockGates();
                dock.make(row, 2, 1);
                dock.make(laid, 2, 10);
                String call = "lay of kind " + laid + " at kind " + row;
                int got = dock.lay(1, 1, 10);
                switch (TABLE[row - 3].charAt(laid)) {
                    case '1' -> dues.fine(dock, call, got, 1);
                    case 'u' -> dues.fault(dock, call, got, Dues.UNFIT);
                    default -> dues.turned(dock, call, got, 1, 10, GATE[row - 3]);
                }
                dues.due("place 1 after " + call, dock.take(1, 1, 0), got == 1 ? 1 : NONE);
                dues.due("place 0 after " + call, dock.take(1, 0, 0), NONE);
                dues.due("at(10) after " + call, dock.at(10), 1);
            }
        }
    }

    private static void everyPlaceIsLaid(Dues dues) {
        dues.of("What stands at a SLOT from is laid at PLACE i of the row at a SLOT to: 1");
        for (int row = 3; row < 9; row++) {
            DockGates dock = Stock.ofOne(row, 8);
            for (int i = 0; i < 8; i++) {
                dock.make(HELD[row - 3], 1, 1 + i);
                dock.size(11);
                dues.fine(dock, "lay at place " + i + " of kind " + row, dock.lay(0, i, 1 + i), 1);
            }
            for (int i = 0; i < 8; i++) {
                dues.due("place " + i + " of kind " + row, dock.take(0, i, 11), 1 + i);
                dues.due("at(" + (1 + i) + ")", dock.at(1 + i), 1 + i);
            }
        }
    }

    private static void rowHoldsTheThingItself(Dues dues) {
        dues.of("What stands at a SLOT from is laid: it stands there still, and is the same one");
        DockGates dock = Stock.ofAllKinds();
        dues.due("grid", dock.pass(3, 3), 2 * (30 + 40));
        dock.put(0, 1, 1);
        dues.due("grid whose row was put", dock.pass(3, 3), 2 * (30 + 1));
        dues.due("stack", dock.pass(7, 7), 4 * 90);
        dock.weigh(9, 7);
        dues.due("stack whose crate was weighed", dock.pass(7, 7), 4 * 7);
        dock.lay(4, 1, 10);
        dues.due("stack whose row was laid", dock.pass(7, 7), 2 * (7 + 100));
        dock.empty(4);
        dues.due("stack whose row's slot was emptied", dock.pass(7, 7), 2 * (7 + 100));
        dock.lid(10, true);
        dues.due("tin stack whose tin was shut", dock.pass(8, 8), 4);
    }

    private static void nothingIsLaid(Dues dues) {
        dues.of("lay: or NOTHING (NOTHING is let through)");
        for (int row = 3; row < 9; row++) {
            DockGates dock = Stock.ofOne(row, 8);
            dock.make(HELD[row - 3], 1, 1);
            Stock.layAll(dock, 0, 8, 1);
            for (int i = 0; i < 8; i += 7) {
                dues.due("what is held", dock.take(0, i, 2), 1);
                dock.size(11);
                dues.fine(dock, "lay of nothing at kind " + row, dock.lay(0, i, 3), 1);
                dues.due("what is held then", dock.take(0, i, 2), NONE);
                dues.fine(dock, "lay of nothing at a hole", dock.lay(0, i, 3), 1);
            }
            dues.fault(dock, "lay of nothing outside", dock.lay(0, 8, 3), Dues.OUTSIDE);
            dues.told(dock, "after nothing", 0, NONE, NONE);
        }
    }

    private static void rowIsNothing(Dues dues) {
        dues.of("The row at to: NULL");
        DockGates dock = Stock.ofAllKinds();
        dock.empty(6);
        for (int from = 0; from < 12; from++) {
            dock.fits(0, 0);
            dues.fault(dock, "lay of slot " + from + " at nothing", dock.lay(6, 0, from), Dues.NULL);
            dues.fault(dock, "lay of slot " + from + " at no place of nothing", dock.lay(6, 9, from), Dues.NULL);
        }
        dues.told(dock, "after NULL", 1, 9, 3);
    }

    private static void gridNeedsGateZero(Dues dues) {
        dues.of("a GRID: what is laid FITS GATE 0 (else TURNED)");
        turnsBackAllBut(dues, 3, 0, new int[] {0});
    }

    private static void stacksNeedGateFour(Dues dues) {
        dues.of("a STACK, a TIN STACK: GATE 4 (else TURNED)");
        turnsBackAllBut(dues, 7, 4, new int[] {4, 5});
        turnsBackAllBut(dues, 8, 4, new int[] {4, 5});
    }

    private static void rowsOfLoadsNeedGateTwelve(Dues dues) {
        dues.of("CRATES, TINS, LOADS: GATE 12 (else TURNED)");
        for (int row = 4; row < 7; row++) {
            turnsBackAllBut(dues, row, 12, new int[] {9, 10, 11});
        }
    }

    /** At a place, and at none: TURNED is met ahead of OUTSIDE; the row itself is turned back, too. */
    private static void turnsBackAllBut(Dues dues, int row, int gate, int[] letThrough) {
        DockGates dock = Stock.ofAllKinds();
        int turns = 1;
        for (int from = 0; from < 12; from++) {
            boolean through = false;
            for (int kind : letThrough) {
                through |= kind == from;
            }
            String call = "lay of kind " + from + " at kind " + row;
            if (through) {
                dues.fault(dock, call + " outside", dock.lay(row, 2, from), Dues.OUTSIDE);
            } else {
                dues.turned(dock, call, dock.lay(row, 0, from), ++turns, from, gate);
                dues.turned(dock, call + " outside", dock.lay(row, 2, from), ++turns, from, gate);
            }
        }
    }

    private static void noSuchRow(Dues dues) {
        dues.of("lay: no such row: TURNED by GATE 6");
        for (int kind : NO_ROWS) {
            DockGates dock = new DockGates();
            dock.make(kind, 1, 4);
            dock.make(9, 1, 5);
            dues.turned(dock, "lay at kind " + kind, dock.lay(4, 0, 5), 1, 4, 6);
            dues.turned(dock, "lay of nothing at kind " + kind, dock.lay(4, 99, 8), 2, 4, 6);
            dues.turned(dock, "lay of itself at kind " + kind, dock.lay(4, 0, 4), 3, 4, 6);
        }
    }

    private static void thenOutside(Dues dues) {
        dues.of("lay: Then OUTSIDE");
        for (int row = 3; row < 9; row++) {
            for (int n = 0; n <= 8; n++) {
                DockGates dock = Stock.ofOne(row, n);
                dock.make(HELD[row - 3], 1, 1);
                int[] places = {-1, n, n + 1, 8, Integer.MIN_VALUE, Integer.MAX_VALUE};
                for (int i : places) {
                    dock.fits(0, 0);
                    String call = "lay at " + i + " of " + n + " of kind " + row;
                    dues.fault(dock, call, dock.lay(0, i, 1), Dues.OUTSIDE);
                }
                dues.told(dock, "after OUTSIDE", 0, NONE, NONE);
            }
        }
    }

    private static void thenUnfit(Dues dues) {
        dues.of("UNFIT: CRATES can't hold a BARREL");
        unfit(dues, 4, 11);
        dues.of("UNFIT: TINS no CRATE that is no TIN");
        unfit(dues, 5, 9);
        dues.of("UNFIT: TINS no BARREL");
        unfit(dues, 5, 11);
        dues.of("UNFIT: a TIN STACK no CRATES that are no TINS");
        unfit(dues, 8, 4);
    }

    /** At each place, at a hole and at what was laid before, which stays. */
    private static void unfit(Dues dues, int row, int laid) {
        DockGates dock = Stock.ofOne(row, 8);
        dock.make(laid, 1, 1);
        dock.make(HELD[row - 3], 1, 2);
        for (int i = 0; i < 8; i++) {
            dock.fits(0, 0);
            dues.fault(dock, "lay at a hole " + i, dock.lay(0, i, 1), Dues.UNFIT);
            dues.due("what the hole " + i + " holds then", dock.take(0, i, 3), NONE);
            dock.lay(0, i, 2);
            dues.fault(dock, "lay at place " + i, dock.lay(0, i, 1), Dues.UNFIT);
            dues.due("what place " + i + " holds then", dock.take(0, i, 3), 2);
        }
        dues.fault(dock, "OUTSIDE ahead of UNFIT", dock.lay(0, 8, 1), Dues.OUTSIDE);
        dues.fault(dock, "OUTSIDE ahead of UNFIT", dock.lay(0, -1, 1), Dues.OUTSIDE);
        dues.told(dock, "after UNFIT", 0, NONE, NONE);
    }

    private static void unfitOfRowsOfNoPlace(Dues dues) {
        dues.of("UNFIT: a TIN STACK no CRATES that are no TINS (whatever they hold)");
        DockGates dock = Stock.ofOne(8, 1);
        dock.make(4, 0, 1);
        dues.fault(dock, "lay of crates of no place", dock.lay(0, 0, 1), Dues.UNFIT);
        dock.make(4, 1, 1);
        dock.make(10, 1, 2);
        dock.lay(1, 0, 2);
        dues.fault(dock, "lay of crates that hold a tin alone", dock.lay(0, 0, 1), Dues.UNFIT);
        dock.make(5, 0, 1);
        dues.fine(dock, "lay of tins of no place", dock.lay(0, 0, 1), 1);
    }

    private static void wrongSlots(Dues dues) {
        dues.of("lay: BAD");
        DockGates dock = Stock.ofAllKinds();
        for (int slot : Dues.NO_SLOTS) {
            dock.size(9);
            dues.fine(dock, "lay at slot " + slot, dock.lay(slot, 0, 9), BAD);
            dock.size(9);
            dues.fine(dock, "lay of slot " + slot, dock.lay(6, 0, slot), BAD);
            dues.fine(dock, "lay of slot " + slot + " outside", dock.lay(6, 9, slot), BAD);
            dues.fine(dock, "lay of slot " + slot + " at a crate", dock.lay(9, 0, slot), BAD);
        }
    }
}
