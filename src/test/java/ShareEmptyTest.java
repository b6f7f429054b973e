/** Promises 10 and 11: share and empty. */
public final class ShareEmptyTest {
    public static void main(String[] args) {
        Dues dues = new Dues();
        shareStandsAtBoth(dues);
        shareOfNothing(dues);
        emptyLeavesTheOthers(dues);
        wrongArguments(dues);
        dues.end();
    }

    private static void shareStandsAtBoth(Dues dues) {
        DockGates dock = new DockGates();
        dock.make(9, 3, 0);
        dock.make(9, 4, 1);
        dock.size(5);
        dues.fine(dock, "share(1, 11)", dock.share(1, 11), 1);
        dues.due("at(1)", dock.at(1), 1);
        dues.due("at(11)", dock.at(11), 1);
        dock.weigh(11, 77);
        dues.due("weight at the first slot", dock.pass(1, 9), 77);
        dues.fine(dock, "share onto a slot that is taken", dock.share(0, 1), 0);
        dues.due("at(1)", dock.at(1), 0);
        dues.due("at(11)", dock.at(11), 1);
        dues.fine(dock, "share with itself", dock.share(11, 11), 1);
        dues.due("at(11)", dock.at(11), 1);
        dues.due("count()", dock.count(), 2);
    }

    private static void shareOfNothing(Dues dues) {
        DockGates dock = new DockGates();
        dock.make(9, 3, 0);
        dues.fine(dock, "share(4, 0)", dock.share(4, 0), DockGates.NONE);
        dues.due("at(0)", dock.at(0), DockGates.NONE);
    }

    private static void emptyLeavesTheOthers(Dues dues) {
        DockGates dock = new DockGates();
        dock.make(11, 3, 0);
        dock.make(9, 3, 2);
        dock.share(2, 3);
        dock.size(5);
        dues.fine(dock, "empty(2)", dock.empty(2), 1);
        dues.due("at(2)", dock.at(2), DockGates.NONE);
        dues.due("at(3)", dock.at(3), 1);
        dues.due("at(0)", dock.at(0), 0);
        dues.fine(dock, "empty(2) again", dock.empty(2), DockGates.NONE);
        dues.fault(dock, "pass(2, 9)", dock.pass(2, 9), Dues.NULL);
        dues.due("count()", dock.count(), 2);
    }

    private static void wrongArguments(Dues dues) {
        DockGates dock = new DockGates();
        dock.make(9, 3, 0);
        int[][] wrong = {{-1, 0}, {12, 0}, {0, -1}, {0, 12}, {Integer.MIN_VALUE, 0}, {0, Integer.MAX_VALUE}};
        for (int[] call : wrong) {
            dock.size(5);
            dues.fine(dock, "share(" + call[0] + ", " + call[1] + ")", dock.share(call[0], call[1]), DockGates.BAD);
        }
        int[] slots = {-1, 12, Integer.MIN_VALUE, Integer.MAX_VALUE};
        for (int slot : slots) {
            dock.size(5);
            dues.fine(dock, "empty(" + slot + ")", dock.empty(slot), DockGates.BAD);
        }
        dues.due("at(0)", dock.at(0), 0);
    }
}
