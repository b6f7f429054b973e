import java.util.List;
import java.util.function.ToLongFunction;

/** 'An object is used for at most 512 calls after it has been made': the last of them is as the first. */
public final class LastCallsTest {
    private static final int MOST_CALLS = 512;

    /** A call of each method and what it answers as the last one, in the dock that stock() makes. */
    private static final List<ToLongFunction<DockGates>> CALLS = List.of(
            dock -> dock.make(11, 4, 3), dock -> dock.fits(2, 9), dock -> dock.pass(0, 6),
            dock -> dock.seek(2, 0, 12), dock -> dock.put(1, 0, 8), dock -> dock.get(1, 0),
            dock -> dock.lay(0, 1, 2), dock -> dock.take(0, 0, 5), dock -> dock.share(2, 6),
            dock -> dock.empty(2), dock -> dock.lid(2, false), dock -> dock.weigh(2, 0), dock -> dock.size(0),
            dock -> dock.at(2), dock -> dock.fault(), dock -> dock.told(0), dock -> dock.count());
    private static final long[] ANSWERS = {3, 1, 14, 9, 1, 77, 1, 2, 2, 2, 1, 6, 2, 2, 1, 0, 3};

    public static void main(String[] args) {
        Dues dues = new Dues();
        dues.of("An object is used for at most 512 calls");
        lastCallOfEachMethod(dues);
        lastThingIsMade(dues);
        mostTurns(dues);
        dues.end();
    }

    private static void lastCallOfEachMethod(Dues dues) {
        for (int call = 0; call < CALLS.size(); call++) {
            DockGates dock = new DockGates();
            int used = stock(dock);
            int turns = 0;
            while (used < MOST_CALLS - 1) {
                dock.pass(0, 1);
                turns++;
                used++;
            }
            // How often is the one answer that the calls before it change.
            long want = call == 15 ? turns : ANSWERS[call];
            dues.due("call 512, of method " + call, CALLS.get(call).applyAsLong(dock), want);
        }
    }

    /** Loads that hold a shut tin twice, counts with a 77, the tin itself; how many calls that took. */
    private static int stock(DockGates dock) {
        dock.make(6, 2, 0);
        dock.make(0, 1, 1);
        dock.make(10, 6, 2);
        dock.lid(2, true);
        dock.lay(0, 0, 2);
        dock.lay(0, 1, 2);
        dock.put(1, 0, 77);
        return 7;
    }

    private static void lastThingIsMade(Dues dues) {
        DockGates dock = new DockGates();
        for (int call = 0; call < 452; call++) {
            dues.due("make that is BAD", dock.make(0, 9, 0), DockGates.BAD);
        }
        for (int number = 0; number < 60; number++) {
            dues.due("make of thing " + number, dock.make(number % 12, 8, 0), number);
        }
    }

    private static void mostTurns(Dues dues) {
        DockGates dock = new DockGates();
        for (int call = 0; call < 511; call++) {
            dock.seek(3, 0, 12);
        }
        dues.due("told(0) of 511 seeks", dock.told(0), 511 * 13);
    }
}
