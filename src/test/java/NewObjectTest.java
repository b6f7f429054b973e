/** Promise 1: a new object; promise 15: at; promise 18: count. */
public final class NewObjectTest {
    public static void main(String[] args) {
        Dues dues = new Dues();
        newObjectHoldsNothing(dues);
        atTellsNumbers(dues);
        countCountsWhatWasMade(dues);
        objectsAreApart(dues);
        dues.end();
    }

    private static void newObjectHoldsNothing(Dues dues) {
        DockGates dock = new DockGates();
        dues.due("fault()", dock.fault(), 0);
        dues.due("count()", dock.count(), 0);
        dues.told(dock, "of a new object", 0, DockGates.NONE, DockGates.NONE);
        for (int slot = 0; slot < 12; slot++) {
            dues.due("at(" + slot + ")", dock.at(slot), DockGates.NONE);
        }
    }

    private static void atTellsNumbers(Dues dues) {
        DockGates dock = new DockGates();
        dock.make(9, 1, 11);
        dock.make(0, 1, 0);
        dues.due("at(11)", dock.at(11), 0);
        dues.due("at(0)", dock.at(0), 1);
        dues.due("at(1)", dock.at(1), DockGates.NONE);
        dues.due("at(-1)", dock.at(-1), DockGates.BAD);
        dues.due("at(12)", dock.at(12), DockGates.BAD);
        dues.due("at(max)", dock.at(Integer.MAX_VALUE), DockGates.BAD);
        dues.due("at(min)", dock.at(Integer.MIN_VALUE), DockGates.BAD);
    }

    private static void countCountsWhatWasMade(Dues dues) {
        DockGates dock = new DockGates();
        dock.make(9, 1, 3);
        dues.due("count()", dock.count(), 1);
        dock.make(9, 1, 3);
        dues.due("count() of a thing that stands nowhere", dock.count(), 2);
        dock.make(12, 1, 3);
        dues.due("count() after BAD", dock.count(), 2);
        dock.share(3, 4);
        dock.empty(3);
        dock.empty(4);
        dues.due("count() after empty", dock.count(), 2);
    }

    private static void objectsAreApart(Dues dues) {
        DockGates one = new DockGates();
        DockGates other = new DockGates();
        one.make(9, 1, 0);
        one.pass(0, 3);
        dues.due("at(0) of the other", other.at(0), DockGates.NONE);
        dues.due("count() of the other", other.count(), 0);
        dues.due("fault() of the other", other.fault(), 0);
        dues.told(other, "of the other", 0, DockGates.NONE, DockGates.NONE);
    }
}
