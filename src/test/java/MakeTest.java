/** Promise 2: make. */
public final class MakeTest {
    private static final int NONE = DockGates.NONE, BAD = DockGates.BAD, FULL = DockGates.FULL;

    public static void main(String[] args) {
        Dues dues = new Dues();
        everyKindIsMade(dues);
        standsAtASlotThatIsTaken(dues);
        howManyPlaces(dues);
        weightAndLitres(dues);
        wrongKinds(dues);
        wrongSlots(dues);
        sixtyAtMost(dues);
        theSixtiethIsWhole(dues);
        fullStaysFull(dues);
        dues.end();
    }

    private static void everyKindIsMade(Dues dues) {
        dues.of("A THING of a KIND stands at a SLOT: its number");
        DockGates dock = new DockGates();
        for (int kind = 0; kind < 12; kind++) {
            dock.size(kind);
            dues.fine(dock, "make of kind " + kind, dock.make(kind, kind % 9, kind), kind);
            dues.due("at(" + kind + ")", dock.at(kind), kind);
            dues.due("fits its own gate " + kind, dock.fits(kind, kind), 1);
        }
    }

    private static void standsAtASlotThatIsTaken(Dues dues) {
        dues.of("A THING of a KIND stands at a SLOT (that is taken)");
        DockGates dock = Stock.ofAllKinds();
        dock.share(3, 4);
        dues.due("make at a slot that is taken", dock.make(0, 4, 3), 12);
        dues.due("at(3)", dock.at(3), 12);
        dues.due("size(3)", dock.size(3), 4);
        dues.due("what stood there stands at another slot", dock.at(4), 3);
    }

    private static void howManyPlaces(Dues dues) {
        dues.of("n is how many PLACES (0 .. 8)");
        for (int kind = 0; kind < 9; kind++) {
            DockGates dock = new DockGates();
            edges(dues, dock, kind, 8);
            dues.due("size of the least", dock.size(0), 0);
            dues.due("size of the most", dock.size(1), 8);
        }
    }

    private static void weightAndLitres(Dues dues) {
        dues.of("n is the WEIGHT or the LITRES (0 .. 1000000)");
        int[] gate = {9, 9, 11};
        for (int kind = 9; kind < 12; kind++) {
            DockGates dock = new DockGates();
            edges(dues, dock, kind, 1000000);
            dues.due("amount of the least", dock.pass(0, gate[kind - 9]), 0);
            dues.due("amount of the most", dock.pass(1, gate[kind - 9]), 1000000);
            dock.make(kind, 9, 2);
            dues.due("amount of more than a row has places", dock.pass(2, gate[kind - 9]), 9);
        }
    }

    private static void edges(Dues dues, DockGates dock, int kind, int most) {
        dues.fine(dock, "least of kind " + kind, dock.make(kind, 0, 0), 0);
        dues.fine(dock, "most of kind " + kind, dock.make(kind, most, 1), 1);
        int[] wrong = {-1, most + 1, Integer.MIN_VALUE, Integer.MAX_VALUE};
        for (int n : wrong) {
            dock.size(11);
            dues.fine(dock, n + " of kind " + kind, dock.make(kind, n, 2), BAD);
        }
        dues.due("at(2) after BAD", dock.at(2), NONE);
        dues.due("count() after BAD", dock.count(), 2);
    }

    private static void wrongKinds(Dues dues) {
        dues.of("make: BAD (no such KIND)");
        DockGates dock = new DockGates();
        int[] kinds = {-1, 12, 13, Integer.MIN_VALUE, Integer.MAX_VALUE};
        for (int kind : kinds) {
            dock.size(11);
            dues.fine(dock, "kind " + kind, dock.make(kind, 0, 0), BAD);
        }
        dues.due("count()", dock.count(), 0);
        dues.due("at(0)", dock.at(0), NONE);
    }

    private static void wrongSlots(Dues dues) {
        dues.of("make: BAD (no such SLOT)");
        for (int kind = 0; kind < 12; kind++) {
            DockGates dock = new DockGates();
            for (int slot : Dues.NO_SLOTS) {
                dock.size(11);
                dues.fine(dock, "kind " + kind + " at slot " + slot, dock.make(kind, 1, slot), BAD);
            }
            dues.due("count()", dock.count(), 0);
        }
    }

    private static void sixtyAtMost(Dues dues) {
        dues.of("make: FULL");
        DockGates dock = new DockGates();
        for (int number = 0; number < 60; number++) {
            dues.due("make of number " + number, dock.make(number % 12, 1, number % 12), number);
        }
        dock.size(9);
        dues.fine(dock, "make of one more", dock.make(0, 1, 5), FULL);
        dues.due("at(5)", dock.at(5), 53);
        dues.due("count()", dock.count(), 60);
        dues.of("make: BAD; FULL");
        dues.fine(dock, "BAD ahead of FULL", dock.make(0, 9, 5), BAD);
    }

    private static void theSixtiethIsWhole(Dues dues) {
        dues.of("THINGS, 60 at most: the last of them is as the others");
        for (int kind = 0; kind < 12; kind++) {
            DockGates dock = new DockGates();
            for (int number = 0; number < 59; number++) {
                dock.make(9, 1, number % 12);
            }
            dues.fine(dock, "make of the last, kind " + kind, dock.make(kind, 8, 11), 59);
            dues.due("at(11)", dock.at(11), 59);
            dues.due("fits", dock.fits(11, kind), 1);
            if (kind < 3) {
                dock.put(11, 7, 6);
                dues.due("last number of the last", dock.get(11, 7), 6);
            }
            dues.due("share of the last", dock.share(11, 0), 59);
            dues.due("empty of the last", dock.empty(0), 59);
        }
    }

    private static void fullStaysFull(Dues dues) {
        dues.of("FULL: 60 THINGS (that were made, wherever they are)");
        DockGates dock = Stock.ofSixty();
        for (int slot = 0; slot < 12; slot++) {
            dock.empty(slot);
        }
        for (int kind = 0; kind < 12; kind++) {
            dues.fine(dock, "make after all slots were emptied", dock.make(kind, 0, kind), FULL);
            dues.due("at(" + kind + ")", dock.at(kind), NONE);
        }
    }
}
