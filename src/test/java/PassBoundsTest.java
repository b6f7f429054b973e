/** Promise 4 and the sentence on PASS in 'Terms': what is told at the edges of each gate. */
public final class PassBoundsTest {
    private static final int MIN = Integer.MIN_VALUE, MAX = Integer.MAX_VALUE;

    public static void main(String[] args) {
        Dues dues = new Dues();
        countsWrapAsInts(dues);
        marksAreSummedAsInts(dues);
        sharesWrapAsLongs(dues);
        gridWrapsAsInts(dues);
        gridNeedsItsRows(dues);
        rowsOfLoadsWeighTogether(dues);
        rowsOfLoadsNeedEachPlace(dues);
        tinsCountTheShut(dues);
        stackWeighsAllInAllRows(dues);
        tinStackCountsTheShut(dues);
        stacksNeedEachRowAndEachCrate(dues);
        singleLoads(dues);
        rowsOfNoPlaceTellZero(dues);
        dues.end();
    }

    private static void countsWrapAsInts(Dues dues) {
        dues.of("0 COUNTS the sum (as ints that wrap)");
        dues.due("MAX", sum(0, MAX), MAX);
        dues.due("MAX and 1", sum(0, MAX, 1), MIN);
        dues.due("MIN", sum(0, MIN), MIN);
        dues.due("MIN and -1", sum(0, MIN, -1), MAX);
        dues.due("MIN twice", sum(0, MIN, MIN), 0);
        dues.due("MAX eight times", sum(0, MAX, MAX, MAX, MAX, MAX, MAX, MAX, MAX), -8);
        dues.due("each place", sum(0, 1, 2, 4, 8, 16, 32, 64, 128), 255);
    }

    private static void marksAreSummedAsInts(Dues dues) {
        dues.of("1 MARKS the sum (as ints)");
        dues.due("127 and 1", sum(1, 127, 1), 128);
        dues.due("-128 and -1", sum(1, -128, -1), -129);
        dues.due("127 eight times", sum(1, 127, 127, 127, 127, 127, 127, 127, 127), 1016);
        dues.due("-128 eight times", sum(1, -128, -128, -128, -128, -128, -128, -128, -128), -1024);
        dues.due("each place", sum(1, 1, 2, 4, 8, 16, 32, 64, -128), -1);
    }

    private static void sharesWrapAsLongs(Dues dues) {
        dues.of("2 SHARES the sum (as longs that wrap)");
        dues.due("int's MAX and 1", sum(2, MAX, 1), 1L << 31);
        dues.due("MAX", sum(2, Long.MAX_VALUE), Long.MAX_VALUE);
        dues.due("MAX and 1", sum(2, Long.MAX_VALUE, 1), Long.MIN_VALUE);
        dues.due("MIN and -1", sum(2, Long.MIN_VALUE, -1), Long.MAX_VALUE);
        dues.due("MIN twice", sum(2, Long.MIN_VALUE, Long.MIN_VALUE), 0);
        long most = Long.MAX_VALUE;
        dues.due("MAX eight times", sum(2, most, most, most, most, most, most, most, most), -8);
        dues.due("each place", sum(2, 1, 2, 4, 8, 16, 32, 64, 128), 255);
    }

    private static void gridWrapsAsInts(Dues dues) {
        dues.of("3 GRID the sum of all of its rows (as ints that wrap)");
        dues.due("a row that wraps", gridSum(1, MAX, 1), MIN);
        dues.due("rows that wrap together", gridSum(2, MAX), -2);
        dues.due("MIN twice", gridSum(2, MIN), 0);
        dues.due("MIN and -1", gridSum(1, MIN, -1), MAX);
        dues.due("64 times MAX", gridSum(8, MAX, MAX, MAX, MAX, MAX, MAX, MAX, MAX), -64);
        DockGates dock = Stock.ofOne(3, 8);
        for (int i = 0; i < 8; i++) {
            dock.make(0, i + 1, 1);
            dock.put(1, i, 1L << i);
            dock.lay(0, i, 1);
        }
        dues.fine(dock, "rows of 1 to 8 places", dock.pass(0, 3), 255);
    }

    private static void gridNeedsItsRows(Dues dues) {
        dues.of("3 GRID (HOLE: a row)");
        for (int i = 0; i < 8; i++) {
            DockGates dock = Stock.ofOne(3, 8);
            dock.make(0, 8, 1);
            Stock.layAll(dock, 0, 8, 1);
            dues.fine(dock, "no row missing", dock.pass(0, 3), 0);
            dock.lay(0, i, 11);
            dues.fault(dock, "row " + i + " missing", dock.pass(0, 3), Dues.HOLE);
        }
    }

    private static void rowsOfLoadsWeighTogether(Dues dues) {
        dues.of("4 CRATES, 6 LOADS what all WEIGH together");
        int[][] rowGateLoad = {{4, 4, 9}, {4, 4, 10}, {4, 6, 9}, {4, 6, 10}, {5, 4, 10}, {5, 6, 10}, {6, 6, 9},
            {6, 6, 10}, {6, 6, 11}};
        for (int[] of : rowGateLoad) {
            DockGates dock = Stock.ofRow(of[0], 8, of[2], 1000000);
            String call = "8 of kind " + of[2] + " in kind " + of[0] + " at " + of[1];
            dues.fine(dock, call, dock.pass(0, of[1]), of[2] == 11 ? 16000000 : 8000000);
            if (of[2] == 10) {
                dock.lid(1, true);
                dues.fine(dock, call + ", shut", dock.pass(0, of[1]), 8000008);
            }
        }
        DockGates dock = Stock.ofOne(6, 8);
        for (int i = 0; i < 8; i++) {
            dock.make(9, 1 << i, 1);
            dock.lay(0, i, 1);
        }
        dues.fine(dock, "each place", dock.pass(0, 6), 255);
    }

    private static void rowsOfLoadsNeedEachPlace(Dues dues) {
        dues.of("4 CRATES, 6 LOADS, 5 TINS (HOLE)");
        for (int row = 4; row < 7; row++) {
            for (int i = 0; i < 8; i++) {
                DockGates dock = Stock.ofRow(row, 8, 10, 3);
                dock.lay(0, i, 11);
                for (int gate = 4; gate < 7; gate++) {
                    if (dock.fits(0, gate) == 1) {
                        dues.fault(dock, "place " + i + " of kind " + row + " at " + gate, dock.pass(0, gate),
                                Dues.HOLE);
                    }
                }
            }
        }
    }

    private static void tinsCountTheShut(Dues dues) {
        dues.of("5 TINS how many are shut");
        DockGates dock = Stock.ofOne(5, 8);
        for (int i = 0; i < 8; i++) {
            dock.make(10, 100, i + 1);
            dock.lay(0, i, i + 1);
        }
        for (int i = 0; i < 8; i++) {
            dues.fine(dock, "shut before place " + i, dock.pass(0, 5), i);
            dock.lid(i + 1, true);
        }
        dues.fine(dock, "all shut", dock.pass(0, 5), 8);
        dock.lid(4, false);
        dues.fine(dock, "one opened", dock.pass(0, 5), 7);
    }

    private static void stackWeighsAllInAllRows(Dues dues) {
        dues.of("7 STACK what all in all rows WEIGH");
        int[][] kinds = {{7, 4, 9}, {7, 4, 10}, {7, 5, 10}, {8, 5, 10}};
        for (int[] of : kinds) {
            DockGates dock = Stock.ofStack(of[0], of[1], of[2], 1000000);
            String call = "stack of kind " + of[0] + ", " + of[1] + ", " + of[2];
            dues.fine(dock, call, dock.pass(0, 7), 64000000);
            dock.lid(2, true);
            dues.fine(dock, call + ", shut", dock.pass(0, 7), of[2] == 10 ? 64000064 : 64000000);
        }
        DockGates dock = Stock.ofOne(7, 8);
        for (int i = 0; i < 8; i++) {
            dock.make(4 + i % 2, 1, 1);
            dock.make(10, 1 << i, 2);
            dock.lay(1, 0, 2);
            dock.lay(0, i, 1);
        }
        dues.fine(dock, "each row", dock.pass(0, 7), 255);
    }

    private static void tinStackCountsTheShut(Dues dues) {
        dues.of("8 TIN STACK how many are shut");
        DockGates dock = Stock.ofStack(8, 5, 10, 1000000);
        dues.fine(dock, "none shut", dock.pass(0, 8), 0);
        dock.lid(2, true);
        dues.fine(dock, "all shut", dock.pass(0, 8), 64);
        dock.make(5, 1, 3);
        dock.make(10, 5, 4);
        dock.lay(3, 0, 4);
        dock.lay(0, 7, 3);
        dues.fine(dock, "a last row that is not shut", dock.pass(0, 8), 56);
    }

    private static void stacksNeedEachRowAndEachCrate(Dues dues) {
        int[][] kinds = {{7, 4, 9}, {7, 5, 10}, {8, 5, 10}};
        for (int[] of : kinds) {
            for (int i = 0; i < 8; i++) {
                for (int gate = 7; gate <= of[0]; gate++) {
                    String call = "kind " + of[0] + " at " + gate + ", place " + i;
                    DockGates dock = Stock.ofStack(of[0], of[1], of[2], 2);
                    dues.of("7 STACK, 8 TIN STACK (HOLE: a row)");
                    dock.lay(0, i, 11);
                    dues.fault(dock, call, dock.pass(0, gate), Dues.HOLE);
                    dues.of("7 STACK, 8 TIN STACK (HOLE: a CRATE)");
                    dock.make(of[1], 8, 3);
                    Stock.layAll(dock, 3, 8, 2);
                    dock.lay(0, i, 3);
                    dues.fine(dock, call, dock.pass(0, gate), gate == 7 ? 128 : 0);
                    dock.lay(3, 7 - i, 11);
                    dues.fault(dock, call, dock.pass(0, gate), Dues.HOLE);
                }
            }
        }
    }

    private static void singleLoads(Dues dues) {
        int[] amounts = {0, 1, 1000000};
        for (int amount : amounts) {
            dues.of("9 CRATE its WEIGHT");
            dues.due("crate of " + amount, Stock.ofOne(9, amount).pass(0, 9), amount);
            DockGates dock = Stock.ofOne(10, amount);
            dock.lid(0, true);
            dues.due("shut tin of " + amount, dock.pass(0, 9), amount);
            dues.of("10 TIN 1 if it is shut, else 0");
            dues.due("shut tin of " + amount, dock.pass(0, 10), 1);
            dock.lid(0, false);
            dues.due("open tin of " + amount, dock.pass(0, 10), 0);
            dues.of("11 BARREL its LITRES");
            dues.due("barrel of " + amount, Stock.ofOne(11, amount).pass(0, 11), amount);
            dues.of("12 LOAD what it WEIGHS");
            dues.due("barrel of " + amount, Stock.ofOne(11, amount).pass(0, 12), 2 * amount);
        }
    }

    private static void rowsOfNoPlaceTellZero(Dues dues) {
        dues.of("Rows have 0 PLACES: a sum of none is 0, and there is no HOLE");
        for (int kind = 0; kind < 9; kind++) {
            DockGates dock = Stock.ofOne(kind, 0);
            for (int gate = 0; gate < 9; gate++) {
                if (dock.fits(0, gate) == 1) {
                    dock.size(5);
                    dues.fine(dock, "kind " + kind + " at " + gate, dock.pass(0, gate), 0);
                }
            }
        }
        int[][] stacks = {{3, 0}, {7, 4}, {7, 5}, {8, 5}};
        for (int[] of : stacks) {
            DockGates dock = Stock.ofOne(of[0], 8);
            dock.make(of[1], 0, 1);
            Stock.layAll(dock, 0, 8, 1);
            dock.size(5);
            dues.fine(dock, "kind " + of[0] + " of rows of no place", dock.pass(0, of[0]), 0);
        }
    }

    /** What a row of numbers tells at its gate, its places filled from 0 on. */
    private static long sum(int kind, long... numbers) {
        DockGates dock = Stock.ofOne(kind, numbers.length);
        for (int i = 0; i < numbers.length; i++) {
            dock.put(0, i, numbers[i]);
        }
        return dock.pass(0, kind);
    }

    /** What a grid tells that holds the same row at each place. */
    private static long gridSum(int rows, long... numbers) {
        DockGates dock = Stock.ofOne(3, rows);
        dock.make(0, numbers.length, 1);
        for (int i = 0; i < numbers.length; i++) {
            dock.put(1, i, numbers[i]);
        }
        Stock.layAll(dock, 0, rows, 1);
        return dock.pass(0, 3);
    }
}
