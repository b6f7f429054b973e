import java.util.List;
import java.util.function.Consumer;

/** Promises 16 and 17: fault and told. */
public final class FaultToldTest {
    private static final int NONE = DockGates.NONE, BAD = DockGates.BAD;

    /** A call of each method but the four that ask, none with a fault in a dock of all kinds. */
    private static final List<Consumer<DockGates>> FINE_CALLS = List.of(
            dock -> dock.make(9, 1, 3), dock -> dock.fits(0, 0), dock -> dock.fits(0, 1), dock -> dock.pass(10, 9),
            dock -> dock.seek(0, 0, 3), dock -> dock.seek(0, 1, 3), dock -> dock.put(1, 0, 5),
            dock -> dock.get(1, 0), dock -> dock.lay(6, 0, 10), dock -> dock.take(6, 0, 5),
            dock -> dock.share(0, 5), dock -> dock.empty(5), dock -> dock.lid(10, true),
            dock -> dock.weigh(10, 2), dock -> dock.size(1));

    /** A call of each method that is BAD or FULL and answers that itself, in a dock of 60 things. */
    private static final List<Consumer<DockGates>> REFUSED_CALLS = List.of(
            dock -> dock.make(12, 1, 3), dock -> dock.make(9, 1, 3), dock -> dock.fits(12, 0),
            dock -> dock.seek(0, 2, 1), dock -> dock.put(12, 0, 5), dock -> dock.lay(6, 0, 12),
            dock -> dock.take(6, 0, 12), dock -> dock.share(0, 12), dock -> dock.empty(12),
            dock -> dock.lid(12, true), dock -> dock.weigh(10, -1), dock -> dock.size(12));

    /** A call, or two, for each of FAULTS, what fault() tells then. */
    private static final List<Consumer<DockGates>> FAULTY_CALLS = List.of(
            dock -> dock.pass(12, 0), dock -> dock.get(-1, 0), dock -> dock.fits(0, 0), dock -> dock.pass(0, 1),
            dock -> nothing(dock), dock -> dock.get(0, 2), dock -> hole(dock), dock -> dock.lay(4, 0, 11));
    private static final int[] FAULTS = {BAD, BAD, 0, Dues.TURNED, Dues.NULL, Dues.OUTSIDE, Dues.HOLE, Dues.UNFIT};

    public static void main(String[] args) {
        Dues dues = new Dues();
        faultOfTheLatestCall(dues);
        faultStaysOverQuestions(dues);
        noneAfterACallWithout(dues);
        noneAfterBadAndFull(dues);
        badWhereItAnswersAnyNumber(dues);
        toldOfNone(dues);
        toldCountsEach(dues);
        toldTellsTheLatest(dues);
        toldStaysOverAllElse(dues);
        toldOfNoSuch(dues);
        dues.end();
    }

    private static void nothing(DockGates dock) {
        dock.empty(11);
        dock.pass(11, 0);
    }

    private static void hole(DockGates dock) {
        dock.make(4, 1, 11);
        dock.pass(11, 4);
    }

    private static void faultOfTheLatestCall(Dues dues) {
        dues.of("The FAULT of the latest call");
        for (int before = 0; before < FAULTS.length; before++) {
            for (int latest = 0; latest < FAULTS.length; latest++) {
                DockGates dock = Stock.ofAllKinds();
                dock.make(11, 1, 11);
                FAULTY_CALLS.get(before).accept(dock);
                dock.make(11, 1, 11);
                FAULTY_CALLS.get(latest).accept(dock);
                dues.due("call " + latest + " after call " + before, dock.fault(), FAULTS[latest]);
            }
        }
    }

    private static void faultStaysOverQuestions(Dues dues) {
        dues.of("the latest call but fault(), told(), at(), count()");
        for (int call = 0; call < FAULTS.length; call++) {
            DockGates dock = Stock.ofAllKinds();
            FAULTY_CALLS.get(call).accept(dock);
            dues.due("fault()", dock.fault(), FAULTS[call]);
            dues.due("fault() again", dock.fault(), FAULTS[call]);
            for (int k = -2; k < 14; k++) {
                dock.told(k);
                dues.due("fault() after told(" + k + ")", dock.fault(), FAULTS[call]);
                dock.at(k);
                dues.due("fault() after at(" + k + ")", dock.fault(), FAULTS[call]);
            }
            dock.count();
            dues.due("fault() after count()", dock.fault(), FAULTS[call]);
        }
    }

    private static void noneAfterACallWithout(Dues dues) {
        dues.of("fault: 0 none");
        for (int call = 0; call < FINE_CALLS.size(); call++) {
            for (Consumer<DockGates> faulty : FAULTY_CALLS) {
                DockGates dock = Stock.ofAllKinds();
                faulty.accept(dock);
                FINE_CALLS.get(call).accept(dock);
                dues.due("fault() after call " + call, dock.fault(), 0);
            }
        }
    }

    private static void noneAfterBadAndFull(Dues dues) {
        dues.of("BAD, FULL: then fault() is 0");
        for (int call = 0; call < REFUSED_CALLS.size(); call++) {
            for (Consumer<DockGates> faulty : FAULTY_CALLS) {
                DockGates dock = Stock.ofSixty();
                faulty.accept(dock);
                REFUSED_CALLS.get(call).accept(dock);
                dues.due("fault() after refused call " + call, dock.fault(), 0);
            }
        }
    }

    private static void badWhereItAnswersAnyNumber(Dues dues) {
        dues.of("fault: BAD where it was BAD and answers any number");
        for (int slot : Dues.NO_SLOTS) {
            DockGates dock = new DockGates();
            dues.fault(dock, "pass(" + slot + ", 0)", dock.pass(slot, 0), BAD);
            dock.fits(0, 0);
            dues.fault(dock, "get(" + slot + ", 0)", dock.get(slot, 0), BAD);
            dues.told(dock, "after BAD", 0, NONE, NONE);
        }
        for (int gate : Dues.NO_GATES) {
            DockGates dock = Stock.ofOne(0, 1);
            dues.fault(dock, "pass(0, " + gate + ")", dock.pass(0, gate), BAD);
            dues.fault(dock, "pass of nothing at " + gate, dock.pass(1, gate), BAD);
        }
    }

    private static void toldOfNone(Dues dues) {
        dues.of("told: of the latest time (NONE)");
        DockGates dock = Stock.ofOne(0, 1);
        dock.pass(1, 0);
        dock.get(0, 1);
        dock.get(12, 0);
        dock.fits(0, 5);
        dock.seek(0, 0, 12);
        dues.told(dock, "before a first turn", 0, NONE, NONE);
    }

    private static void toldCountsEach(Dues dues) {
        dues.of("told: 0 how often");
        DockGates dock = Stock.ofOne(9, 1);
        for (int turns = 1; turns <= 150; turns++) {
            dock.size(0);
            dues.due("told(0)", dock.told(0), turns);
        }
        for (int seeks = 1; seeks <= 100; seeks++) {
            dock.seek(1, 0, 12);
            dues.due("told(0) after seeks", dock.told(0), 150 + 13 * seeks);
        }
    }

    private static void toldTellsTheLatest(Dues dues) {
        dues.of("told: 1 the SLOT where it stood, 2 the GATE, of the latest time");
        DockGates dock = new DockGates();
        for (int slot = 0; slot < 12; slot++) {
            dock.make(9, 1, slot);
            dues.turned(dock, "pass", dock.pass(slot, (slot + 2) % 9), slot + 1, slot, (slot + 2) % 9);
        }
        dock.make(0, 1, 5);
        dues.turned(dock, "lid(5)", dock.lid(5, true), 13, 5, 10);
        dues.turned(dock, "lid(5) again", dock.lid(5, true), 14, 5, 10);
        dock.seek(4, 0, 12);
        dues.told(dock, "after seek", 23, 4, 8);
    }

    private static void toldStaysOverAllElse(Dues dues) {
        dues.of("told: Of what was TURNED (and of no other call)");
        DockGates dock = Stock.ofAllKinds();
        dock.empty(8);
        dock.pass(8, 0);
        dock.get(0, 7);
        dock.lay(4, 0, 11);
        dock.get(12, 7);
        dock.put(12, 7, 0);
        dock.seek(0, 2, 1);
        dock.fits(0, 12);
        dock.make(4, 1, 8);
        dock.pass(8, 4);
        dock.lay(8, 0, 11);
        dock.take(8, 0, 7);
        dock.empty(9);
        dues.told(dock, "after other faults", 1, 9, 3);
        dues.told(dock, "told again", 1, 9, 3);
    }

    private static void toldOfNoSuch(Dues dues) {
        dues.of("told: BAD");
        int[] wrong = {-1, 3, 4, 12, Integer.MIN_VALUE, Integer.MAX_VALUE};
        for (int what : wrong) {
            dues.due("told(" + what + ")", new DockGates().told(what), BAD);
            dues.due("told(" + what + ") after a turn", Stock.ofAllKinds().told(what), BAD);
        }
    }
}
