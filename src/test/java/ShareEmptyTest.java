/** Promises 10 and 11: share and empty. */
public final class ShareEmptyTest {
    private static final int NONE = DockGates.NONE, BAD = DockGates.BAD;

    public static void main(String[] args) {
        Dues dues = new Dues();
        shareStandsAtBoth(dues);
        shareOntoASlotThatIsTaken(dues);
        shareWithItself(dues);
        shareOfNothing(dues);
        shareOfNoSlot(dues);
        emptyTellsWhatStoodThere(dues);
        emptyLeavesTheOthers(dues);
        emptyOfNothing(dues);
        emptyOfNoSlot(dues);
        dues.end();
    }

    private static void shareStandsAtBoth(Dues dues) {
        dues.of("share: What stands at a SLOT stands at another one, too: its number");
        for (int from = 0; from < 12; from++) {
            for (int to = 0; to < 12; to++) {
                DockGates dock = new DockGates();
                dock.make(0, 1, from);
                dock.make(10, 4, from);
                dock.get(-1, 0);
                dues.fine(dock, "share(" + from + ", " + to + ")", dock.share(from, to), 1);
                dues.due("at(" + from + ")", dock.at(from), 1);
                dues.due("at(" + to + ")", dock.at(to), 1);
                dock.weigh(to, 77);
                dues.due("weight at the first slot", dock.pass(from, 9), 77);
                dues.due("count()", dock.count(), 2);
            }
        }
    }

    private static void shareOntoASlotThatIsTaken(Dues dues) {
        dues.of("share: stands at another one (that is taken)");
        DockGates dock = Stock.ofAllKinds();
        dock.share(1, 11);
        dues.fine(dock, "share(0, 1)", dock.share(0, 1), 0);
        dues.due("at(0)", dock.at(0), 0);
        dues.due("at(1)", dock.at(1), 0);
        dues.due("at(11)", dock.at(11), 1);
    }

    private static void shareWithItself(Dues dues) {
        dues.of("share: of a SLOT with itself, which is not BAD");
        for (int slot = 0; slot < 12; slot++) {
            DockGates dock = Stock.ofAllKinds();
            dues.fine(dock, "share(" + slot + ", " + slot + ")", dock.share(slot, slot), slot);
            dues.due("at(" + slot + ")", dock.at(slot), slot);
        }
    }

    private static void shareOfNothing(Dues dues) {
        dues.of("share: (or NOTHING); NONE");
        DockGates dock = Stock.ofAllKinds();
        dock.empty(4);
        dock.size(9);
        dues.fine(dock, "share(4, 0)", dock.share(4, 0), NONE);
        dues.due("at(0)", dock.at(0), NONE);
        dues.fine(dock, "share(4, 0) again", dock.share(4, 0), NONE);
        dues.fine(dock, "share(4, 4)", dock.share(4, 4), NONE);
    }

    private static void shareOfNoSlot(Dues dues) {
        dues.of("share: BAD");
        DockGates dock = Stock.ofAllKinds();
        for (int slot : Dues.NO_SLOTS) {
            dock.size(9);
            dues.fine(dock, "share(" + slot + ", 0)", dock.share(slot, 0), BAD);
            dock.size(9);
            dues.fine(dock, "share(0, " + slot + ")", dock.share(0, slot), BAD);
            dues.fine(dock, "share of no slot with itself", dock.share(slot, slot), BAD);
        }
        dues.due("at(0)", dock.at(0), 0);
    }

    private static void emptyTellsWhatStoodThere(Dues dues) {
        dues.of("empty: A SLOT holds NOTHING: the number of what stood there");
        DockGates dock = Stock.ofAllKinds();
        for (int slot = 0; slot < 12; slot++) {
            dock.get(-1, 0);
            dues.fine(dock, "empty(" + slot + ")", dock.empty(slot), slot);
            dues.due("at(" + slot + ")", dock.at(slot), NONE);
            dues.fault(dock, "size(" + slot + ")", dock.size(slot), Dues.NULL);
        }
        dues.due("count()", dock.count(), 12);
    }

    private static void emptyLeavesTheOthers(Dues dues) {
        dues.of("empty: of a SLOT alone; other SLOTS and PLACES hold the same one");
        DockGates dock = Stock.ofAllKinds();
        dock.share(9, 3);
        dock.empty(9);
        dues.due("at(3)", dock.at(3), 9);
        dues.due("weight of what stands at another slot", dock.pass(3, 9), 90);
        dues.due("place of a row", dock.take(4, 0, 0), 9);
    }

    private static void emptyOfNothing(Dues dues) {
        dues.of("empty: NONE");
        DockGates dock = Stock.ofAllKinds();
        for (int slot = 0; slot < 12; slot++) {
            dock.empty(slot);
            dock.pass(slot, 0);
            dues.fine(dock, "empty(" + slot + ") again", dock.empty(slot), NONE);
        }
    }

    private static void emptyOfNoSlot(Dues dues) {
        dues.of("empty: BAD");
        DockGates dock = Stock.ofAllKinds();
        for (int slot : Dues.NO_SLOTS) {
            dock.size(9);
            dues.fine(dock, "empty(" + slot + ")", dock.empty(slot), BAD);
        }
        for (int slot = 0; slot < 12; slot++) {
            dues.due("at(" + slot + ")", dock.at(slot), slot);
        }
    }
}
