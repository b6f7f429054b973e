/** Promises 16 and 17: fault and told. */
public final class FaultToldTest {
    public static void main(String[] args) {
        Dues dues = new Dues();
        faultStaysOverQuestions(dues);
        everyOtherCallClearsIt(dues);
        toldTellsTheLatest(dues);
        toldOfNoSuch(dues);
        dues.end();
    }

    private static void faultStaysOverQuestions(Dues dues) {
        DockGates dock = new DockGates();
        dock.make(9, 1, 0);
        dock.pass(0, 3);
        dock.fault();
        dock.told(0);
        dock.told(9);
        dock.at(0);
        dock.at(12);
        dock.count();
        dues.due("fault() over questions", dock.fault(), Dues.TURNED);
        dock.get(12, 0);
        dock.told(-1);
        dock.at(-1);
        dock.count();
        dues.due("BAD over questions", dock.fault(), DockGates.BAD);
    }

    private static void everyOtherCallClearsIt(Dues dues) {
        for (int call = 0; call < 13; call++) {
            DockGates dock = new DockGates();
            dock.make(10, 1, 0);
            dock.make(0, 1, 1);
            dock.make(6, 1, 2);
            dues.fault(dock, "a fault first", dock.pass(11, 0), Dues.NULL);
            callWithoutFault(dock, call);
            dues.due("fault() after call " + call, dock.fault(), 0);
        }
    }

    private static void callWithoutFault(DockGates dock, int call) {
        switch (call) {
            case 0 -> dock.make(9, 1, 3);
            case 1 -> dock.fits(0, 0);
            case 2 -> dock.pass(0, 9);
            case 3 -> dock.seek(0, 0, 3);
            case 4 -> dock.put(1, 0, 5);
            case 5 -> dock.get(1, 0);
            case 6 -> dock.lay(2, 0, 0);
            case 7 -> dock.take(2, 0, 5);
            case 8 -> dock.share(0, 5);
            case 9 -> dock.empty(5);
            case 10 -> dock.lid(0, true);
            case 11 -> dock.weigh(0, 2);
            default -> dock.size(1);
        }
    }

    private static void toldTellsTheLatest(Dues dues) {
        DockGates dock = new DockGates();
        dock.make(9, 1, 4);
        dock.make(0, 1, 5);
        dues.turned(dock, "pass(4, 8)", dock.pass(4, 8), 1, 4, 8);
        dues.turned(dock, "lid(5)", dock.lid(5, true), 2, 5, 10);
        dock.pass(11, 0);
        dock.get(5, 7);
        dock.get(12, 7);
        dock.empty(5);
        dues.told(dock, "after other faults", 2, 5, 10);
        dock.seek(4, 0, 12);
        dues.told(dock, "after seek", 11, 4, 8);
    }

    private static void toldOfNoSuch(Dues dues) {
        DockGates dock = new DockGates();
        int[] wrong = {-1, 3, Integer.MIN_VALUE, Integer.MAX_VALUE};
        for (int what : wrong) {
            dues.due("told(" + what + ")", dock.told(what), DockGates.BAD);
        }
    }
}
