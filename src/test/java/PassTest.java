/** Promise 4: pass. */
public final class PassTest {
    public static void main(String[] args) {
        Dues dues = new Dues();
        rowsOfNumbers(dues);
        grid(dues);
        singleLoads(dues);
        rowsOfLoads(dues);
        stacks(dues);
        emptyRows(dues);
        everyKindIsTurnedWhereItDoesNotFit(dues);
        wrongArguments(dues);
        dues.end();
    }

    private static void rowsOfNumbers(Dues dues) {
        dues.of("pass: 0 COUNTS, 1 MARKS, 2 SHARES the sum");
        DockGates dock = new DockGates();
        dock.make(0, 3, 0);
        dock.put(0, 0, Integer.MAX_VALUE);
        dock.put(0, 2, 2);
        dues.fine(dock, "counts that wrap", dock.pass(0, 0), Integer.MIN_VALUE + 1L);
        dock.make(1, 8, 1);
        for (int i = 0; i < 8; i++) {
            dock.put(1, i, 127);
        }
        dues.fine(dock, "marks as ints", dock.pass(1, 1), 8 * 127);
        for (int i = 0; i < 8; i++) {
            dock.put(1, i, 128);
        }
        dues.fine(dock, "marks below 0", dock.pass(1, 1), -8 * 128);
        dock.make(2, 2, 2);
        dock.put(2, 0, Long.MAX_VALUE);
        dues.fine(dock, "shares", dock.pass(2, 2), Long.MAX_VALUE);
        dock.put(2, 1, 1);
        dues.fine(dock, "shares that wrap", dock.pass(2, 2), Long.MIN_VALUE);
    }

    private static void grid(Dues dues) {
        dues.of("pass: 3 GRID the sum of all of its rows");
        DockGates dock = new DockGates();
        dock.make(3, 3, 0);
        dock.make(0, 2, 1);
        dock.make(0, 0, 2);
        dock.put(1, 0, Integer.MIN_VALUE);
        dock.put(1, 1, 5);
        dues.fault(dock, "grid of holes", dock.pass(0, 3), Dues.HOLE);
        dock.lay(0, 0, 1);
        dock.lay(0, 1, 2);
        dues.fault(dock, "grid with a hole at its end", dock.pass(0, 3), Dues.HOLE);
        dock.lay(0, 2, 1);
        dues.fine(dock, "grid that wraps", dock.pass(0, 3), 10);
        dock.lay(0, 0, 2);
        dues.fine(dock, "grid with one row of two", dock.pass(0, 3), Integer.MIN_VALUE + 5L);
        dock.lay(0, 0, 11);
        dues.fault(dock, "grid with a hole at its start", dock.pass(0, 3), Dues.HOLE);
        dues.told(dock, "after holes", 0, DockGates.NONE, DockGates.NONE);
    }

    private static void singleLoads(Dues dues) {
        dues.of("pass: 9 CRATE, 10 TIN, 11 BARREL, 12 LOAD");
        DockGates dock = new DockGates();
        dock.make(9, 50, 0);
        dock.make(10, 60, 1);
        dock.make(11, 70, 2);
        dues.fine(dock, "crate at 9", dock.pass(0, 9), 50);
        dues.fine(dock, "crate at 12", dock.pass(0, 12), 50);
        dues.fine(dock, "tin at 9", dock.pass(1, 9), 60);
        dues.fine(dock, "tin at 10", dock.pass(1, 10), 0);
        dues.fine(dock, "tin at 12", dock.pass(1, 12), 60);
        dock.lid(1, true);
        dues.fine(dock, "shut tin at 9", dock.pass(1, 9), 60);
        dues.fine(dock, "shut tin at 10", dock.pass(1, 10), 1);
        dues.fine(dock, "shut tin at 12", dock.pass(1, 12), 61);
        dues.fine(dock, "barrel at 11", dock.pass(2, 11), 70);
        dues.fine(dock, "barrel at 12", dock.pass(2, 12), 140);
    }

    private static void rowsOfLoads(Dues dues) {
        dues.of("pass: 4 CRATES, 5 TINS, 6 LOADS");
        DockGates dock = new DockGates();
        dock.make(9, 5, 0);
        dock.make(10, 7, 1);
        dock.make(11, 4, 2);
        dock.lid(1, true);
        dock.make(4, 2, 3);
        dock.make(5, 2, 4);
        dock.make(6, 3, 5);
        for (int row = 3; row < 6; row++) {
            dues.fault(dock, "row of holes", dock.pass(row, row + 1), Dues.HOLE);
        }
        dock.lay(3, 0, 0);
        dock.lay(4, 1, 1);
        dock.lay(5, 0, 0);
        dock.lay(5, 2, 2);
        dues.fault(dock, "crates with a hole at 4", dock.pass(3, 4), Dues.HOLE);
        dues.fault(dock, "crates with a hole at 6", dock.pass(3, 6), Dues.HOLE);
        dues.fault(dock, "tins with a hole at 4", dock.pass(4, 4), Dues.HOLE);
        dues.fault(dock, "tins with a hole at 5", dock.pass(4, 5), Dues.HOLE);
        dues.fault(dock, "tins with a hole at 6", dock.pass(4, 6), Dues.HOLE);
        dues.fault(dock, "loads with a hole", dock.pass(5, 6), Dues.HOLE);
        dock.lay(3, 1, 1);
        dock.make(10, 30, 6);
        dock.lay(4, 0, 6);
        dock.lay(5, 1, 1);
        dues.fine(dock, "crates at 4", dock.pass(3, 4), 5 + 8);
        dues.fine(dock, "crates at 6", dock.pass(3, 6), 5 + 8);
        dues.fine(dock, "tins at 4", dock.pass(4, 4), 30 + 8);
        dues.fine(dock, "tins at 5", dock.pass(4, 5), 1);
        dues.fine(dock, "tins at 6", dock.pass(4, 6), 30 + 8);
        dues.fine(dock, "loads at 6", dock.pass(5, 6), 5 + 8 + 8);
    }

    private static void stacks(Dues dues) {
        dues.of("pass: 7 STACK, 8 TIN STACK");
        DockGates dock = new DockGates();
        dock.make(10, 9, 0);
        dock.lid(0, true);
        dock.make(9, 3, 1);
        dock.make(4, 2, 2);
        dock.make(5, 1, 3);
        dock.make(7, 2, 4);
        dock.make(8, 2, 5);
        dock.lay(2, 0, 1);
        dock.lay(3, 0, 0);
        dock.lay(4, 0, 2);
        dock.lay(5, 0, 3);
        dues.fault(dock, "stack without a row", dock.pass(4, 7), Dues.HOLE);
        dues.fault(dock, "tin stack without a row", dock.pass(5, 8), Dues.HOLE);
        dues.fault(dock, "tin stack without a row at 7", dock.pass(5, 7), Dues.HOLE);
        dock.lay(4, 1, 3);
        dock.lay(5, 1, 3);
        dues.fault(dock, "stack without a crate", dock.pass(4, 7), Dues.HOLE);
        dues.fine(dock, "tin stack at 8", dock.pass(5, 8), 2);
        dues.fine(dock, "tin stack at 7", dock.pass(5, 7), 20);
        dock.lay(2, 1, 0);
        dues.fine(dock, "stack at 7", dock.pass(4, 7), 3 + 10 + 10);
        dock.lay(3, 0, 11);
        dues.fault(dock, "stack without a tin", dock.pass(4, 7), Dues.HOLE);
        dues.fault(dock, "tin stack without a tin at 8", dock.pass(5, 8), Dues.HOLE);
        dues.fault(dock, "tin stack without a tin at 7", dock.pass(5, 7), Dues.HOLE);
        dues.turned(dock, "stack at 8", dock.pass(4, 8), 1, 4, 8);
    }

    private static void emptyRows(Dues dues) {
        dues.of("pass: rows of no PLACE");
        DockGates dock = new DockGates();
        for (int kind = 0; kind < 9; kind++) {
            dock.make(kind, 0, 0);
            dues.fine(dock, "empty row of kind " + kind, dock.pass(0, kind), 0);
        }
    }

    private static void everyKindIsTurnedWhereItDoesNotFit(Dues dues) {
        dues.of("pass: TURNED");
        for (int kind = 0; kind < 12; kind++) {
            DockGates dock = new DockGates();
            // A row of holes shows that TURNED is met ahead of HOLE.
            dock.make(kind, 3, kind);
            int turns = 0;
            for (int gate = 0; gate < 13; gate++) {
                if (dock.fits(kind, gate) == 0) {
                    turns++;
                    dues.turned(dock, "kind " + kind + " at " + gate, dock.pass(kind, gate), turns, kind, gate);
                }
            }
        }
    }

    private static void wrongArguments(Dues dues) {
        dues.of("pass: NULL; 0 of BAD, which fault() tells as BAD");
        DockGates dock = new DockGates();
        dues.fault(dock, "nothing at 3", dock.pass(0, 3), Dues.NULL);
        dues.told(dock, "after NULL", 0, DockGates.NONE, DockGates.NONE);
        dock.make(9, 5, 0);
        dues.fault(dock, "slot -1", dock.pass(-1, 0), DockGates.BAD);
        dues.fault(dock, "slot 12", dock.pass(12, 0), DockGates.BAD);
        dues.fault(dock, "gate -1", dock.pass(0, -1), DockGates.BAD);
        dues.fault(dock, "gate 13", dock.pass(0, 13), DockGates.BAD);
        dues.fault(dock, "BAD ahead of NULL", dock.pass(1, 13), DockGates.BAD);
        dues.told(dock, "after BAD", 0, DockGates.NONE, DockGates.NONE);
        dues.fine(dock, "pass after BAD", dock.pass(0, 9), 5);
    }
}
