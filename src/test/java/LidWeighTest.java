/** Promises 12 and 13: lid and weigh. */
public final class LidWeighTest {
    private static final int NONE = DockGates.NONE, BAD = DockGates.BAD;

    public static void main(String[] args) {
        Dues dues = new Dues();
        lidTellsWhatItWas(dues);
        lidOfOneTinAlone(dues);
        lidOfNothing(dues);
        lidOfNoTin(dues);
        lidOfNoSlot(dues);
        weighTellsWhatItHad(dues);
        weighOfATin(dues);
        weighBelowAndAbove(dues);
        weighOfNothing(dues);
        weighOfNoCrate(dues);
        weighOfNoSlot(dues);
        dues.end();
    }

    private static void lidTellsWhatItWas(Dues dues) {
        dues.of("The lid of the TIN at a SLOT is shut, or opened: 1 if it was shut, 0");
        DockGates dock = Stock.ofOne(10, 5);
        dock.size(0);
        dues.fine(dock, "open an open lid", dock.lid(0, false), 0);
        dues.due("open tin", dock.pass(0, 10), 0);
        dues.fine(dock, "shut an open lid", dock.lid(0, true), 0);
        dues.due("shut tin", dock.pass(0, 10), 1);
        dues.fine(dock, "shut a shut lid", dock.lid(0, true), 1);
        dues.due("tin that was shut twice", dock.pass(0, 12), 6);
        dues.fine(dock, "open a shut lid", dock.lid(0, false), 1);
        dues.due("opened tin", dock.pass(0, 10), 0);
        dues.due("weight of the opened tin", dock.pass(0, 12), 5);
        dues.fine(dock, "open an opened lid", dock.lid(0, false), 0);
    }

    private static void lidOfOneTinAlone(Dues dues) {
        dues.of("The lid of the TIN at a SLOT (of no other TIN)");
        DockGates dock = new DockGates();
        for (int slot = 0; slot < 12; slot++) {
            dock.make(10, 5, slot);
        }
        dock.lid(6, true);
        for (int slot = 0; slot < 12; slot++) {
            dues.due("tin at slot " + slot, dock.pass(slot, 10), slot == 6 ? 1 : 0);
        }
    }

    private static void lidOfNothing(Dues dues) {
        dues.of("lid: NULL");
        DockGates dock = Stock.ofOne(10, 5);
        for (int slot = 1; slot < 12; slot++) {
            dock.fits(0, 0);
            dues.fault(dock, "lid(" + slot + ", true)", dock.lid(slot, true), Dues.NULL);
            dues.fault(dock, "lid(" + slot + ", false)", dock.lid(slot, false), Dues.NULL);
        }
        dues.told(dock, "after NULL", 0, NONE, NONE);
    }

    private static void lidOfNoTin(Dues dues) {
        dues.of("lid: TURNED by GATE 10");
        for (int kind = 0; kind < 12; kind++) {
            if (kind != 10) {
                DockGates dock = new DockGates();
                dock.make(kind, 4, 3);
                dues.turned(dock, "lid of kind " + kind, dock.lid(3, true), 1, 3, 10);
                dues.turned(dock, "lid of kind " + kind, dock.lid(3, false), 2, 3, 10);
            }
        }
        for (int kind = 9; kind < 12; kind += 2) {
            DockGates dock = Stock.ofOne(kind, 4);
            dock.lid(0, true);
            dues.due("what weighs whose lid was turned", dock.pass(0, 12), kind == 9 ? 4 : 8);
        }
    }

    private static void lidOfNoSlot(Dues dues) {
        dues.of("lid: BAD");
        DockGates dock = Stock.ofOne(10, 5);
        for (int slot : Dues.NO_SLOTS) {
            dock.size(5);
            dues.fine(dock, "lid(" + slot + ", true)", dock.lid(slot, true), BAD);
            dock.size(5);
            dues.fine(dock, "lid(" + slot + ", false)", dock.lid(slot, false), BAD);
        }
        dues.due("lid of the tin", dock.pass(0, 10), 0);
        dues.told(dock, "after BAD", 0, NONE, NONE);
    }

    private static void weighTellsWhatItHad(Dues dues) {
        dues.of("The CRATE at a SLOT gets another WEIGHT (0 .. 1000000): what it had");
        DockGates dock = Stock.ofOne(9, 5);
        dock.make(9, 6, 1);
        dock.size(5);
        dues.fine(dock, "weigh(0, 1000000)", dock.weigh(0, 1000000), 5);
        dues.due("weight", dock.pass(0, 9), 1000000);
        dues.fine(dock, "weigh(0, 0)", dock.weigh(0, 0), 1000000);
        dues.due("weight", dock.pass(0, 9), 0);
        dues.fine(dock, "weigh(0, 8)", dock.weigh(0, 8), 0);
        dues.fine(dock, "weigh(0, 8) again", dock.weigh(0, 8), 8);
        dues.due("weight", dock.pass(0, 9), 8);
        dues.due("weight of the other", dock.pass(1, 9), 6);
    }

    private static void weighOfATin(Dues dues) {
        dues.of("weigh: The CRATE (a TIN, too)");
        DockGates dock = Stock.ofOne(10, 5);
        dues.fine(dock, "weigh of an open tin", dock.weigh(0, 1000000), 5);
        dock.lid(0, true);
        dues.fine(dock, "weigh of a shut tin", dock.weigh(0, 0), 1000000);
        dues.due("lid that stays shut", dock.pass(0, 10), 1);
        dues.due("weight of a shut tin", dock.pass(0, 9), 0);
        dues.due("what the shut tin weighs", dock.pass(0, 12), 1);
        dues.fine(dock, "weigh of a shut tin once more", dock.weigh(0, 7), 0);
    }

    private static void weighBelowAndAbove(Dues dues) {
        dues.of("weigh: another WEIGHT (0 .. 1000000), else BAD");
        int[] weights = {-1, 1000001, Integer.MIN_VALUE, Integer.MAX_VALUE};
        for (int kind = 9; kind < 12; kind++) {
            DockGates dock = Stock.ofOne(kind, 5);
            for (int weight : weights) {
                dock.size(5);
                dues.fine(dock, "weigh(0, " + weight + ")", dock.weigh(0, weight), BAD);
                dock.size(5);
                dues.fine(dock, "BAD ahead of NULL", dock.weigh(1, weight), BAD);
            }
            dues.due("what it weighs", dock.pass(0, 12), kind == 11 ? 10 : 5);
            dues.told(dock, "after BAD", 0, NONE, NONE);
        }
    }

    private static void weighOfNothing(Dues dues) {
        dues.of("weigh: NULL");
        DockGates dock = Stock.ofOne(9, 5);
        for (int slot = 1; slot < 12; slot++) {
            dock.fits(0, 0);
            dues.fault(dock, "weigh(" + slot + ", 1)", dock.weigh(slot, 1), Dues.NULL);
        }
        dues.told(dock, "after NULL", 0, NONE, NONE);
    }

    private static void weighOfNoCrate(Dues dues) {
        dues.of("weigh: TURNED by GATE 9");
        for (int kind = 0; kind < 12; kind++) {
            if (kind != 9 && kind != 10) {
                DockGates dock = new DockGates();
                dock.make(kind, 4, 3);
                dues.turned(dock, "weigh of kind " + kind, dock.weigh(3, 0), 1, 3, 9);
                dues.turned(dock, "weigh of kind " + kind, dock.weigh(3, 1000000), 2, 3, 9);
            }
        }
        DockGates dock = Stock.ofOne(11, 4);
        dock.weigh(0, 7);
        dues.due("litres", dock.pass(0, 11), 4);
    }

    private static void weighOfNoSlot(Dues dues) {
        dues.of("weigh: BAD");
        DockGates dock = Stock.ofOne(9, 5);
        for (int slot : Dues.NO_SLOTS) {
            dock.size(5);
            dues.fine(dock, "weigh(" + slot + ", 1)", dock.weigh(slot, 1), BAD);
        }
        dues.due("weight", dock.pass(0, 9), 5);
    }
}
