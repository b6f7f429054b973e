/** Promises 12 and 13: lid and weigh. */
public final class LidWeighTest {
    public static void main(String[] args) {
        Dues dues = new Dues();
        lidTellsWhatItWas(dues);
        lidOfNoTin(dues);
        weighTellsWhatItHad(dues);
        weighOfNoCrate(dues);
        wrongArguments(dues);
        dues.end();
    }

    private static void lidTellsWhatItWas(Dues dues) {
        DockGates dock = new DockGates();
        dock.make(10, 5, 0);
        dock.make(10, 5, 1);
        dues.fine(dock, "open an open lid", dock.lid(0, false), 0);
        dues.fine(dock, "shut an open lid", dock.lid(0, true), 0);
        dues.fine(dock, "shut a shut lid", dock.lid(0, true), 1);
        dues.due("shut tin", dock.pass(0, 10), 1);
        dues.due("other tin", dock.pass(1, 10), 0);
        dues.fine(dock, "open a shut lid", dock.lid(0, false), 1);
        dues.due("opened tin", dock.pass(0, 10), 0);
        dues.due("weight of the opened tin", dock.pass(0, 12), 5);
    }

    private static void lidOfNoTin(Dues dues) {
        for (int kind = 0; kind < 12; kind++) {
            if (kind != 10) {
                DockGates dock = new DockGates();
                dock.make(kind, 4, 3);
                dues.turned(dock, "lid of kind " + kind, dock.lid(3, true), 1, 3, 10);
            }
        }
        DockGates dock = new DockGates();
        dock.make(9, 4, 3);
        dock.lid(3, true);
        dues.due("weight of a crate whose lid was turned", dock.pass(3, 12), 4);
    }

    private static void weighTellsWhatItHad(Dues dues) {
        for (int kind = 9; kind < 11; kind++) {
            DockGates dock = new DockGates();
            dock.make(kind, 5, 0);
            dock.make(kind, 6, 1);
            dues.fine(dock, "weigh(0, 1000000)", dock.weigh(0, 1000000), 5);
            dues.fine(dock, "weigh(0, 0)", dock.weigh(0, 0), 1000000);
            dues.fine(dock, "weigh(0, 8)", dock.weigh(0, 8), 0);
            dues.due("weight", dock.pass(0, 9), 8);
            dues.due("weight of the other", dock.pass(1, 9), 6);
        }
        DockGates dock = new DockGates();
        dock.make(10, 5, 0);
        dock.lid(0, true);
        dues.fine(dock, "weigh of a shut tin", dock.weigh(0, 9), 5);
        dues.due("lid that stays shut", dock.pass(0, 12), 10);
    }

    private static void weighOfNoCrate(Dues dues) {
        for (int kind = 0; kind < 12; kind++) {
            if (kind != 9 && kind != 10) {
                DockGates dock = new DockGates();
                dock.make(kind, 4, 3);
                dues.turned(dock, "weigh of kind " + kind, dock.weigh(3, 7), 1, 3, 9);
            }
        }
        DockGates dock = new DockGates();
        dock.make(11, 4, 3);
        dock.weigh(3, 7);
        dues.due("litres", dock.pass(3, 11), 4);
    }

    private static void wrongArguments(Dues dues) {
        DockGates dock = new DockGates();
        dock.make(10, 5, 0);
        dues.fault(dock, "lid of nothing", dock.lid(1, true), Dues.NULL);
        dues.fault(dock, "weigh of nothing", dock.weigh(1, 4), Dues.NULL);
        int[] slots = {-1, 12, Integer.MIN_VALUE, Integer.MAX_VALUE};
        for (int slot : slots) {
            dock.size(5);
            dues.fine(dock, "lid(" + slot + ")", dock.lid(slot, true), DockGates.BAD);
            dock.size(5);
            dues.fine(dock, "weigh(" + slot + ", 1)", dock.weigh(slot, 1), DockGates.BAD);
        }
        int[] weights = {-1, 1000001, Integer.MIN_VALUE, Integer.MAX_VALUE};
        for (int weight : weights) {
            dues.fine(dock, "weigh(0, " + weight + ")", dock.weigh(0, weight), DockGates.BAD);
            dues.fine(dock, "BAD ahead of NULL", dock.weigh(1, weight), DockGates.BAD);
        }
        dues.due("weight", dock.pass(0, 9), 5);
        dues.told(dock, "after NULL and BAD", 0, DockGates.NONE, DockGates.NONE);
    }
}
