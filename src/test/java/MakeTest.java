/** Promise 2: make. */
public final class MakeTest {
    public static void main(String[] args) {
        Dues dues = new Dues();
        everyKindIsMade(dues);
        edgesOfNumbers(dues);
        wrongArguments(dues);
        sixtyAtMost(dues);
        dues.end();
    }

    private static void everyKindIsMade(Dues dues) {
        DockGates dock = new DockGates();
        for (int kind = 0; kind < 12; kind++) {
            dues.fine(dock, "make of kind " + kind, dock.make(kind, kind % 9, kind), kind);
            dues.due("at(" + kind + ")", dock.at(kind), kind);
            dues.due("fits its own gate " + kind, dock.fits(kind, kind), 1);
        }
        dues.due("make at a slot that is taken", dock.make(0, 4, 3), 12);
        dues.due("at(3)", dock.at(3), 12);
        dues.due("size(3)", dock.size(3), 4);
    }

    private static void edgesOfNumbers(Dues dues) {
        for (int kind = 0; kind < 12; kind++) {
            int most = kind < 9 ? 8 : 1000000;
            DockGates dock = new DockGates();
            dues.due("least of kind " + kind, dock.make(kind, 0, 0), 0);
            dues.due("most of kind " + kind, dock.make(kind, most, 1), 1);
            dues.due("more of kind " + kind, dock.make(kind, most + 1, 2), DockGates.BAD);
            dues.due("less of kind " + kind, dock.make(kind, -1, 2), DockGates.BAD);
            dues.due("min of kind " + kind, dock.make(kind, Integer.MIN_VALUE, 2), DockGates.BAD);
            dues.due("max of kind " + kind, dock.make(kind, Integer.MAX_VALUE, 2), DockGates.BAD);
            dues.due("at(2)", dock.at(2), DockGates.NONE);
            dues.due("count()", dock.count(), 2);
            if (kind < 9) {
                dues.due("size of the least", dock.size(0), 0);
                dues.due("size of the most", dock.size(1), 8);
            } else {
                dues.due("amount of the least", dock.pass(0, kind), 0);
                dues.due("amount of the most", dock.pass(1, kind), kind == 10 ? 0 : 1000000);
            }
        }
        DockGates dock = new DockGates();
        dock.make(10, 1000000, 0);
        dues.due("weight of a tin", dock.pass(0, 9), 1000000);
    }

    private static void wrongArguments(Dues dues) {
        DockGates dock = new DockGates();
        dock.pass(0, 0);
        dues.fine(dock, "kind -1", dock.make(-1, 0, 0), DockGates.BAD);
        dues.fine(dock, "kind 12", dock.make(12, 0, 0), DockGates.BAD);
        dues.fine(dock, "kind min", dock.make(Integer.MIN_VALUE, 0, 0), DockGates.BAD);
        dues.fine(dock, "slot -1", dock.make(0, 0, -1), DockGates.BAD);
        dues.fine(dock, "slot 12", dock.make(0, 0, 12), DockGates.BAD);
        dues.due("count()", dock.count(), 0);
    }

    private static void sixtyAtMost(Dues dues) {
        DockGates dock = new DockGates();
        for (int number = 0; number < 60; number++) {
            dues.due("make of number " + number, dock.make(number % 12, 1, number % 12), number);
        }
        dock.size(9);
        dues.fine(dock, "make of one more", dock.make(0, 1, 5), DockGates.FULL);
        dues.due("at(5)", dock.at(5), 53);
        dues.due("count()", dock.count(), 60);
        dues.fine(dock, "BAD ahead of FULL", dock.make(0, 9, 5), DockGates.BAD);
        dock.empty(5);
        dues.due("make after empty", dock.make(0, 1, 5), DockGates.FULL);
        dues.due("at(5)", dock.at(5), DockGates.NONE);
    }
}
