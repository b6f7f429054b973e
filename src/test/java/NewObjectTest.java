/** Promise 1: a new object; promise 15: at; promise 18: count. */
public final class NewObjectTest {
    private static final int NONE = DockGates.NONE, BAD = DockGates.BAD;

    public static void main(String[] args) {
        Dues dues = new Dues();
        slotsWithNothing(dues);
        noThings(dues);
        noFault(dues);
        objectsAreApart(dues);
        atTellsNumbers(dues);
        atOfNothingIsNone(dues);
        atOfNoSlotIsBad(dues);
        countCountsWhatWasMade(dues);
        countEndsAtSixty(dues);
        dues.end();
    }

    private static void slotsWithNothing(Dues dues) {
        dues.of("DockGates(): SLOTS with NOTHING");
        DockGates dock = new DockGates();
        for (int slot = 0; slot < 12; slot++) {
            dues.due("at(" + slot + ")", dock.at(slot), NONE);
            dues.fault(dock, "pass(" + slot + ", 12)", dock.pass(slot, 12), Dues.NULL);
        }
    }

    private static void noThings(Dues dues) {
        dues.of("DockGates(): no THINGS");
        DockGates dock = new DockGates();
        dues.due("count()", dock.count(), 0);
        dues.due("number of the first thing", dock.make(0, 0, 0), 0);
    }

    private static void noFault(Dues dues) {
        dues.of("DockGates(): no FAULT");
        DockGates dock = new DockGates();
        dues.due("fault()", dock.fault(), 0);
        dues.told(dock, "of a new object", 0, NONE, NONE);
    }

    private static void objectsAreApart(Dues dues) {
        dues.of("DockGates(): a new object beside another");
        DockGates one = new DockGates();
        DockGates other = new DockGates();
        one.make(9, 1, 0);
        one.pass(0, 3);
        DockGates later = new DockGates();
        for (DockGates dock : new DockGates[] {other, later}) {
            dues.due("at(0)", dock.at(0), NONE);
            dues.due("count()", dock.count(), 0);
            dues.due("fault()", dock.fault(), 0);
            dues.told(dock, "of another", 0, NONE, NONE);
        }
    }

    private static void atTellsNumbers(Dues dues) {
        dues.of("at: The number of what stands at a SLOT");
        DockGates dock = new DockGates();
        for (int number = 0; number < 60; number++) {
            int slot = 11 - number % 12;
            dock.make(number % 12, 1, slot);
            dues.due("at(" + slot + ")", dock.at(slot), number);
        }
        for (int slot = 0; slot < 12; slot++) {
            dues.due("at(" + slot + ") of 60", dock.at(slot), 59 - slot);
        }
    }

    private static void atOfNothingIsNone(Dues dues) {
        dues.of("at: NONE");
        DockGates dock = Stock.ofAllKinds();
        for (int slot = 0; slot < 12; slot++) {
            dock.empty(slot);
            dues.due("at(" + slot + ") of an emptied slot", dock.at(slot), NONE);
        }
    }

    private static void atOfNoSlotIsBad(Dues dues) {
        dues.of("at: BAD");
        DockGates dock = Stock.ofAllKinds();
        for (int slot : Dues.NO_SLOTS) {
            dues.due("at(" + slot + ")", dock.at(slot), BAD);
            dues.due("at(" + slot + ") of a new object", new DockGates().at(slot), BAD);
        }
    }

    private static void countCountsWhatWasMade(Dues dues) {
        dues.of("count: How many THINGS there are");
        DockGates dock = new DockGates();
        dock.make(9, 1, 3);
        dues.due("count()", dock.count(), 1);
        dock.make(9, 1, 3);
        dues.due("count() of a thing that stands nowhere", dock.count(), 2);
        dock.make(12, 1, 3);
        dues.due("count() after BAD", dock.count(), 2);
        dock.share(3, 4);
        dock.empty(3);
        dock.empty(4);
        dues.due("count() after empty", dock.count(), 2);
    }

    private static void countEndsAtSixty(Dues dues) {
        dues.of("count: 60 at most");
        DockGates dock = new DockGates();
        for (int made = 0; made < 64; made++) {
            dues.due("count()", dock.count(), Math.min(made, 60));
            dock.make(made % 12, 8, made % 12);
        }
        dues.due("count() after FULL", dock.count(), 60);
    }
}
