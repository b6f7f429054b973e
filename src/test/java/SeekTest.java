/** Promise 5: seek. */
public final class SeekTest {
    private static final int NONE = DockGates.NONE, BAD = DockGates.BAD;
    private static final int[] FIRST_GATE = {0, 1, 2, 3, 4, 4, 6, 7, 7, 9, 9, 11};

    public static void main(String[] args) {
        Dues dues = new Dues();
        firstGateOfAll(dues);
        everyPartOfTheGates(dues);
        eachOtherOneTurnsItBack(dues);
        faultIsZero(dues);
        nothingIsTurnedByEach(dues);
        lastBelowFirst(dues);
        wrongSlotsAndGates(dues);
        dues.end();
    }

    private static void firstGateOfAll(Dues dues) {
        dues.of("The first GATE of first .. last that what stands at a SLOT FITS");
        for (int kind = 0; kind < 12; kind++) {
            DockGates dock = new DockGates();
            dock.make(kind, 3, 7);
            int want = FIRST_GATE[kind];
            dues.fine(dock, "seek of kind " + kind, dock.seek(7, 0, 12), want);
            boolean none = want == 0;
            dues.told(dock, "of kind " + kind, want, none ? NONE : 7, none ? NONE : want - 1);
        }
    }

    private static void everyPartOfTheGates(Dues dues) {
        dues.of("seek: first .. last, both among them; NONE: it FITS none of them");
        for (int kind = 0; kind < 12; kind++) {
            for (int first = 0; first < 13; first++) {
                DockGates dock = Stock.ofAllKinds();
                for (int last = first; last < 13; last++) {
                    int want = first;
                    while (want <= last && dock.fits(kind, want) == 0) {
                        want++;
                    }
                    String call = "seek of kind " + kind + " from " + first + " to " + last;
                    dues.fine(dock, call, dock.seek(kind, first, last), want > last ? NONE : want);
                }
            }
        }
    }

    private static void eachOtherOneTurnsItBack(Dues dues) {
        dues.of("each other one ahead of it turns it back (told() counts them)");
        DockGates dock = new DockGates();
        dock.make(5, 1, 2);
        dock.seek(2, 6, 6);
        dues.told(dock, "after a first gate", 0, NONE, NONE);
        dock.seek(2, 7, 12);
        dues.told(dock, "after none", 6, 2, 12);
        dock.seek(2, 3, 3);
        dues.told(dock, "after one gate", 7, 2, 3);
        dock.seek(2, 2, 5);
        dues.told(dock, "after two gates", 9, 2, 3);
        dock.pass(2, 0);
        dock.seek(2, 5, 12);
        dues.told(dock, "after a gate that it fits at once", 10, 2, 0);
    }

    private static void faultIsZero(Dues dues) {
        dues.of("seek: fault() is 0");
        DockGates dock = Stock.ofAllKinds();
        dues.fine(dock, "seek after a fault", dock.seek(5, 5, 12), 5);
        dock.size(9);
        dues.fine(dock, "seek that is turned back", dock.seek(5, 0, 12), 4);
        dock.size(9);
        dues.fine(dock, "seek that finds none", dock.seek(5, 7, 12), NONE);
    }

    private static void nothingIsTurnedByEach(Dues dues) {
        dues.of("seek: NONE (NOTHING FITS none)");
        DockGates dock = new DockGates();
        dues.fine(dock, "seek of nothing", dock.seek(11, 0, 12), NONE);
        dues.told(dock, "of nothing", 13, 11, 12);
        dues.fine(dock, "seek of nothing at one gate", dock.seek(0, 5, 5), NONE);
        dues.told(dock, "of nothing at one gate", 14, 0, 5);
    }

    private static void lastBelowFirst(Dues dues) {
        dues.of("seek: BAD: also last is below first");
        DockGates dock = Stock.ofAllKinds();
        for (int first = 0; first < 13; first++) {
            for (int last = 0; last < first; last++) {
                dock.size(9);
                String call = "seek from " + first + " to " + last;
                dues.fine(dock, call, dock.seek(10, first, last), BAD);
            }
        }
        DockGates empty = new DockGates();
        dues.fine(empty, "seek of nothing from 1 to 0", empty.seek(0, 1, 0), BAD);
        dues.told(empty, "after BAD", 0, NONE, NONE);
    }

    private static void wrongSlotsAndGates(Dues dues) {
        dues.of("seek: BAD (no such SLOT, GATE)");
        DockGates dock = Stock.ofOne(0, 1);
        int[][] wrong = {{-1, 0, 12}, {12, 0, 12}, {0, -1, 12}, {0, 0, 13}, {0, 13, 13}, {0, -2, -1}, {0, 12, 13},
            {0, -1, 0}, {0, Integer.MIN_VALUE, Integer.MAX_VALUE}, {Integer.MAX_VALUE, 0, 0}};
        for (int[] call : wrong) {
            dock.size(5);
            dues.fine(dock, "seek(" + call[0] + ", " + call[1] + ", " + call[2] + ")",
                    dock.seek(call[0], call[1], call[2]), BAD);
        }
        dues.told(dock, "after BAD", 0, NONE, NONE);
    }
}
