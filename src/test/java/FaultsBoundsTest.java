/** The sentences of 'Terms' on FAULTS: each of the five, in each call that may meet it, and their order. */
public final class FaultsBoundsTest {
    public static void main(String[] args) {
        Dues dues = new Dues();
        turned(dues);
        nothingIsNull(dues);
        outside(dues);
        hole(dues);
        unfit(dues);
        nullIsMetAheadOfOthers(dues);
        turnedIsMetAheadOfOthers(dues);
        outsideIsMetAheadOfUnfit(dues);
        dues.end();
    }

    private static void turned(Dues dues) {
        dues.of("1 TURNED: a THING does not FIT the GATE that a call needs");
        DockGates dock = Stock.ofAllKinds();
        dues.turned(dock, "pass of loads at 4", dock.pass(6, 4), 2, 6, 4);
        dues.turned(dock, "put at a grid", dock.put(3, 0, 1), 3, 3, 2);
        dues.turned(dock, "get of a crate", dock.get(9, 0), 4, 9, 2);
        dues.turned(dock, "lay of marks at a grid", dock.lay(3, 0, 1), 5, 1, 0);
        dues.turned(dock, "lay at shares", dock.lay(2, 0, 9), 6, 2, 6);
        dues.turned(dock, "take of counts", dock.take(0, 0, 5), 7, 0, 6);
        dues.turned(dock, "lid of a crate", dock.lid(9, true), 8, 9, 10);
        dues.turned(dock, "weigh of a barrel", dock.weigh(11, 1), 9, 11, 9);
        dues.turned(dock, "size of a tin", dock.size(10), 10, 10, 8);
    }

    private static void nothingIsNull(Dues dues) {
        dues.of("2 NULL: there is NOTHING");
        for (int slot = 0; slot < 12; slot++) {
            DockGates dock = Stock.ofAllKinds();
            dock.empty(slot);
            int other = (slot + 1) % 12;
            dues.fault(dock, "pass", dock.pass(slot, slot), Dues.NULL);
            dues.fault(dock, "put", dock.put(slot, 0, 1), Dues.NULL);
            dues.fault(dock, "get", dock.get(slot, 0), Dues.NULL);
            dues.fault(dock, "lay", dock.lay(slot, 0, other), Dues.NULL);
            dues.fault(dock, "lay of nothing", dock.lay(slot, 0, slot), Dues.NULL);
            dues.fault(dock, "take", dock.take(slot, 0, other), Dues.NULL);
            dues.fault(dock, "lid", dock.lid(slot, true), Dues.NULL);
            dues.fault(dock, "weigh", dock.weigh(slot, 1), Dues.NULL);
            dues.fault(dock, "size", dock.size(slot), Dues.NULL);
            dues.told(dock, "after NULL", 1, 9, 3);
        }
    }

    private static void outside(Dues dues) {
        dues.of("3 OUTSIDE: a row has no such PLACE");
        int[] held = {0, 9, 10, 11, 4, 5};
        int[] noPlaces = {-1, 2, 8, Integer.MIN_VALUE, Integer.MAX_VALUE};
        DockGates dock = Stock.ofAllKinds();
        for (int i : noPlaces) {
            for (int row = 0; row < 3; row++) {
                dues.fault(dock, "put at place " + i + " of kind " + row, dock.put(row, i, 5), Dues.OUTSIDE);
                dues.fault(dock, "get of place " + i + " of kind " + row, dock.get(row, i), Dues.OUTSIDE);
            }
            for (int row = 3; row < 9; row++) {
                String call = "place " + i + " of kind " + row;
                dues.fault(dock, "lay at " + call, dock.lay(row, i, held[row - 3]), Dues.OUTSIDE);
                dues.fault(dock, "take of " + call, dock.take(row, i, 0), Dues.OUTSIDE);
            }
        }
        dues.told(dock, "after OUTSIDE", 1, 9, 3);
    }

    private static void hole(Dues dues) {
        dues.of("4 HOLE: a PLACE that is needed holds NOTHING");
        for (int row = 3; row < 9; row++) {
            for (int i = 0; i < 2; i++) {
                DockGates dock = Stock.ofAllKinds();
                dock.empty(11);
                dock.lay(row, i, 11);
                for (int gate = 3; gate < 9; gate++) {
                    if (dock.fits(row, gate) == 1) {
                        String call = "pass of kind " + row + " at " + gate + " without place " + i;
                        dues.fault(dock, call, dock.pass(row, gate), Dues.HOLE);
                    }
                }
                dues.told(dock, "after HOLE", 1, 9, 3);
            }
        }
    }

    private static void unfit(Dues dues) {
        dues.of("5 UNFIT: a row can't hold that");
        int[][] rowAndLaid = {{4, 11}, {5, 9}, {5, 11}, {8, 4}};
        for (int[] pair : rowAndLaid) {
            for (int i = 0; i < 2; i++) {
                DockGates dock = Stock.ofAllKinds();
                String call = "lay of kind " + pair[1] + " at place " + i + " of kind " + pair[0];
                dues.fault(dock, call, dock.lay(pair[0], i, pair[1]), Dues.UNFIT);
                dues.told(dock, "after UNFIT", 1, 9, 3);
            }
        }
    }

    private static void nullIsMetAheadOfOthers(Dues dues) {
        dues.of("Of several that which is met first (NULL)");
        DockGates dock = Stock.ofAllKinds();
        dock.empty(7);
        dues.fault(dock, "put at no place of nothing", dock.put(7, -1, 1), Dues.NULL);
        dues.fault(dock, "get of no place of nothing", dock.get(7, 9), Dues.NULL);
        dues.fault(dock, "lay of what no row holds at no place of nothing", dock.lay(7, -1, 3), Dues.NULL);
        dues.fault(dock, "take of no place of nothing", dock.take(7, 9, 0), Dues.NULL);
        dues.told(dock, "after NULL", 1, 9, 3);
    }

    private static void turnedIsMetAheadOfOthers(Dues dues) {
        dues.of("Of several that which is met first (TURNED)");
        DockGates dock = Stock.ofAllKinds();
        dues.turned(dock, "put at no place of a grid", dock.put(3, -1, 1), 2, 3, 2);
        dues.turned(dock, "get of no place of a tin", dock.get(10, 9), 3, 10, 2);
        dues.turned(dock, "lay of a grid at no place of tins", dock.lay(5, 9, 3), 4, 3, 12);
        dues.turned(dock, "lay of a grid at no place of marks", dock.lay(1, 9, 3), 5, 1, 6);
        dues.turned(dock, "take of no place of a barrel", dock.take(11, -1, 0), 6, 11, 6);
        dock.make(4, 2, 0);
        dues.turned(dock, "pass of crates with holes at 5", dock.pass(0, 5), 7, 0, 5);
        dock.make(7, 2, 0);
        dues.turned(dock, "pass of a stack with holes at 8", dock.pass(0, 8), 8, 0, 8);
    }

    private static void outsideIsMetAheadOfUnfit(Dues dues) {
        dues.of("Of several that which is met first (OUTSIDE)");
        DockGates dock = Stock.ofAllKinds();
        int[][] rowAndLaid = {{4, 11}, {5, 9}, {5, 11}, {8, 4}};
        for (int[] pair : rowAndLaid) {
            String call = "lay of kind " + pair[1] + " at no place of kind " + pair[0];
            dues.fault(dock, call, dock.lay(pair[0], -1, pair[1]), Dues.OUTSIDE);
            dues.fault(dock, call, dock.lay(pair[0], 2, pair[1]), Dues.OUTSIDE);
        }
        dues.due("what was laid before", dock.take(4, 0, 0), 9);
    }
}
