/** Counts the answers that are not as due, and ends a test with exit code 1 if there was one. */
final class Dues {
    static final int TURNED = 1, NULL = 2, OUTSIDE = 3, HOLE = 4, UNFIT = 5;

    /** Slots that no dock has, at both edges and at the ends of int. */
    static final int[] NO_SLOTS = {-1, 12, Integer.MIN_VALUE, Integer.MAX_VALUE};
    static final int[] NO_GATES = {-1, 13, Integer.MIN_VALUE, Integer.MAX_VALUE};

    private int wrong = 0;
    private String sentence = "";

    /** The sentence of the document that the dues from here on are of. */
    void of(String words) {
        sentence = "'" + words + "': ";
    }

    void due(String call, long got, long want) {
        if (got != want) {
            wrong++;
            System.out.println(sentence + call + " answered " + got + ", due is " + want);
        }
    }

    /** A call that has just answered 'got' met a fault: it answers 0, and fault() tells which. */
    void fault(DockGates dock, String call, long got, int fault) {
        due(call, got, 0);
        due("fault() after " + call, dock.fault(), fault);
    }

    /** A call that has just answered 'got' met no fault. */
    void fine(DockGates dock, String call, long got, long want) {
        due(call, got, want);
        due("fault() after " + call, dock.fault(), 0);
    }

    /** What told() tells of all that was turned back until now. */
    void told(DockGates dock, String when, int turns, int slot, int gate) {
        due("told(0) " + when, dock.told(0), turns);
        due("told(1) " + when, dock.told(1), slot);
        due("told(2) " + when, dock.told(2), gate);
    }

    /** A call that met the fault TURNED, as the dock's turn of that count. */
    void turned(DockGates dock, String call, long got, int turns, int slot, int gate) {
        fault(dock, call, got, TURNED);
        told(dock, "after " + call, turns, slot, gate);
    }

    void end() {
        System.out.println(wrong == 0 ? "all answers are as due" : wrong + " answers are not as due");
        if (wrong != 0) {
            System.exit(1);
        }
    }
}
