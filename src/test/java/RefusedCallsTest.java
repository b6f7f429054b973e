import java.util.ArrayList;
import java.util.List;
import java.util.function.Supplier;
import java.util.function.ToLongFunction;

/**
 * The sentences of 'Terms' on refused calls: what each answers, what fault() and told() tell of it, and that
 * it changes nothing else. A dock that met the call is compared with one that did not, in all that calls show.
 */
public final class RefusedCallsTest {
    private static final int BAD = DockGates.BAD, FULL = DockGates.FULL;
    private static final int[] NO_KINDS = {-1, 12, 13, Integer.MIN_VALUE, Integer.MAX_VALUE};
    private static final int[] NO_PLACE_COUNTS = {-1, 9, 1000000, Integer.MIN_VALUE, Integer.MAX_VALUE};
    private static final int[] NO_AMOUNTS = {-1, 1000001, Integer.MIN_VALUE, Integer.MAX_VALUE};

    private final Dues dues = new Dues();

    public static void main(String[] args) {
        RefusedCallsTest test = new RefusedCallsTest();
        test.badSlots();
        test.badGates();
        test.badKindsAndNumbers();
        test.badIsToldAheadOfFaults();
        test.fullIsTold();
        test.badIsToldAheadOfFull();
        test.badOfAnyNumberIsToldByFault();
        test.turnedChangesNothing();
        test.nullChangesNothing();
        test.outsideChangesNothing();
        test.holeChangesNothing();
        test.unfitChangesNothing();
        test.dues.end();
    }

    private void badSlots() {
        dues.of("BAD: there is no such SLOT");
        for (int slot : Dues.NO_SLOTS) {
            bad("make at slot " + slot, dock -> dock.make(9, 1, slot));
            bad("fits of slot " + slot, dock -> dock.fits(slot, 0));
            bad("seek of slot " + slot, dock -> dock.seek(slot, 0, 12));
            bad("put at slot " + slot, dock -> dock.put(slot, 0, 1));
            bad("lay at slot " + slot, dock -> dock.lay(slot, 0, 9));
            bad("lay of slot " + slot, dock -> dock.lay(6, 0, slot));
            bad("take of slot " + slot, dock -> dock.take(slot, 0, 9));
            bad("take to slot " + slot, dock -> dock.take(6, 0, slot));
            bad("share of slot " + slot, dock -> dock.share(slot, 0));
            bad("share with slot " + slot, dock -> dock.share(0, slot));
            bad("empty of slot " + slot, dock -> dock.empty(slot));
            bad("lid of slot " + slot, dock -> dock.lid(slot, true));
            bad("weigh of slot " + slot, dock -> dock.weigh(slot, 1));
            bad("size of slot " + slot, dock -> dock.size(slot));
        }
    }

    private void badGates() {
        dues.of("BAD: there is no such GATE");
        for (int gate : Dues.NO_GATES) {
            bad("fits at gate " + gate, dock -> dock.fits(0, gate));
            bad("seek from gate " + gate, dock -> dock.seek(9, gate, 12));
            bad("seek up to gate " + gate, dock -> dock.seek(9, 0, gate));
            bad("seek at gate " + gate, dock -> dock.seek(9, gate, gate));
        }
        dues.of("BAD: also last is below first");
        for (int first = 1; first <= 12; first++) {
            int from = first;
            bad("seek from " + first + " to the one below", dock -> dock.seek(9, from, from - 1));
            bad("seek from " + first + " to 0", dock -> dock.seek(0, from, 0));
        }
    }

    private void badKindsAndNumbers() {
        dues.of("BAD: there is no such KIND");
        for (int kind : NO_KINDS) {
            bad("make of kind " + kind, dock -> dock.make(kind, 1, 0));
            bad("make of kind " + kind + " of 0", dock -> dock.make(kind, 0, 0));
        }
        dues.of("BAD: a number is not as told");
        for (int kind = 0; kind < 12; kind++) {
            int of = kind;
            for (int n : kind < 9 ? NO_PLACE_COUNTS : NO_AMOUNTS) {
                bad("make of kind " + kind + " of " + n, dock -> dock.make(of, n, 0));
            }
        }
        for (int weight : NO_AMOUNTS) {
            bad("weigh of a crate as " + weight, dock -> dock.weigh(9, weight));
            bad("weigh of a tin as " + weight, dock -> dock.weigh(10, weight));
        }
    }

    private void badIsToldAheadOfFaults() {
        dues.of("BAD is told ahead of FAULTS");
        bad("weigh of a barrel as -1", dock -> dock.weigh(11, -1));
        bad("lay of no slot at a barrel", dock -> dock.lay(11, 0, 12));
        bad("lay of no slot outside", dock -> dock.lay(6, 9, -1));
        bad("take of a barrel to no slot", dock -> dock.take(11, 0, 12));
        bad("take outside to no slot", dock -> dock.take(6, -1, -1));
        Supplier<DockGates> withoutTwo = () -> emptied(2);
        refused(withoutTwo, "weigh of nothing as 1000001", dock -> dock.weigh(2, 1000001), BAD, 0);
        refused(withoutTwo, "lay of no slot at nothing", dock -> dock.lay(2, 0, 12), BAD, 0);
        refused(withoutTwo, "take of nothing to no slot", dock -> dock.take(2, 0, -1), BAD, 0);
        refused(withoutTwo, "seek of nothing at no gate", dock -> dock.seek(2, 0, 13), BAD, 0);
        refused(withoutTwo, "fits of nothing at no gate", dock -> dock.fits(2, 13), BAD, 0);
        refused(withoutTwo, "pass of nothing at no gate", dock -> dock.pass(2, 13), 0, BAD);
    }

    private void fullIsTold() {
        dues.of("FULL: 60 THINGS; then fault() is 0");
        for (int kind = 0; kind < 12; kind++) {
            int of = kind;
            refused(Stock::ofSixty, "make of kind " + kind, dock -> dock.make(of, 8, of), FULL, 0);
        }
        refused(Stock::ofSixty, "make of none", dock -> dock.make(0, 0, 11), FULL, 0);
    }

    private void badIsToldAheadOfFull() {
        dues.of("BAD; FULL");
        refused(Stock::ofSixty, "make of kind 12", dock -> dock.make(12, 1, 0), BAD, 0);
        refused(Stock::ofSixty, "make of 9 places", dock -> dock.make(8, 9, 0), BAD, 0);
        refused(Stock::ofSixty, "make of -1", dock -> dock.make(9, -1, 0), BAD, 0);
        refused(Stock::ofSixty, "make at slot 12", dock -> dock.make(9, 1, 12), BAD, 0);
    }

    private void badOfAnyNumberIsToldByFault() {
        dues.of("0 of BAD, which fault() tells as BAD");
        for (int slot : Dues.NO_SLOTS) {
            refused(Stock::ofAllKinds, "pass of slot " + slot, dock -> dock.pass(slot, 0), 0, BAD);
            refused(Stock::ofAllKinds, "get of slot " + slot, dock -> dock.get(slot, 0), 0, BAD);
        }
        for (int gate : Dues.NO_GATES) {
            refused(Stock::ofAllKinds, "pass at gate " + gate, dock -> dock.pass(0, gate), 0, BAD);
        }
    }

    private void turnedChangesNothing() {
        dues.of("A call with a FAULT answers 0 and changes nothing (TURNED)");
        turned("pass of crates at 5", dock -> dock.pass(4, 5), 4, 5);
        turned("put at a grid", dock -> dock.put(3, 0, 1), 3, 2);
        turned("put at a crate", dock -> dock.put(9, 0, 1), 9, 2);
        turned("get of a tin stack", dock -> dock.get(8, 0), 8, 2);
        turned("lay of marks at a grid", dock -> dock.lay(3, 0, 1), 1, 0);
        turned("lay of loads at a stack", dock -> dock.lay(7, 0, 6), 6, 4);
        turned("lay of a tin at a tin stack", dock -> dock.lay(8, 1, 10), 10, 4);
        turned("lay of tins at loads", dock -> dock.lay(6, 1, 5), 5, 12);
        turned("lay of a stack at crates", dock -> dock.lay(4, 1, 7), 7, 12);
        turned("lay of counts at tins", dock -> dock.lay(5, 0, 0), 0, 12);
        turned("lay of a row at itself", dock -> dock.lay(4, 0, 4), 4, 12);
        turned("lay at counts", dock -> dock.lay(0, 0, 0), 0, 6);
        turned("lay at a barrel", dock -> dock.lay(11, 0, 9), 11, 6);
        turned("take of shares", dock -> dock.take(2, 0, 3), 2, 6);
        turned("take of a tin", dock -> dock.take(10, 1, 3), 10, 6);
        turned("lid of a crate", dock -> dock.lid(9, true), 9, 10);
        turned("lid of tins", dock -> dock.lid(5, true), 5, 10);
        turned("weigh of a barrel", dock -> dock.weigh(11, 7), 11, 9);
        turned("weigh of crates", dock -> dock.weigh(4, 7), 4, 9);
        turned("size of a crate", dock -> dock.size(9), 9, 8);
    }

    private void nullChangesNothing() {
        dues.of("A call with a FAULT answers 0 and changes nothing (NULL)");
        for (int slot = 0; slot < 12; slot++) {
            int s = slot;
            Supplier<DockGates> without = () -> emptied(s);
            refused(without, "pass of slot " + s, dock -> dock.pass(s, s), 0, Dues.NULL);
            refused(without, "put at slot " + s, dock -> dock.put(s, 0, 1), 0, Dues.NULL);
            refused(without, "get of slot " + s, dock -> dock.get(s, 0), 0, Dues.NULL);
            refused(without, "lay at slot " + s, dock -> dock.lay(s, 0, 11 - s), 0, Dues.NULL);
            refused(without, "take of slot " + s, dock -> dock.take(s, 0, 11 - s), 0, Dues.NULL);
            refused(without, "lid of slot " + s, dock -> dock.lid(s, true), 0, Dues.NULL);
            refused(without, "weigh of slot " + s, dock -> dock.weigh(s, 1), 0, Dues.NULL);
            refused(without, "size of slot " + s, dock -> dock.size(s), 0, Dues.NULL);
        }
    }

    private void outsideChangesNothing() {
        dues.of("A call with a FAULT answers 0 and changes nothing (OUTSIDE)");
        int[] noPlaces = {-1, 2};
        int[] held = {0, 9, 10, 11, 4, 5};
        for (int i : noPlaces) {
            for (int row = 0; row < 9; row++) {
                int r = row;
                if (row < 3) {
                    refused(Stock::ofAllKinds, "put", dock -> dock.put(r, i, 1), 0, Dues.OUTSIDE);
                    refused(Stock::ofAllKinds, "get", dock -> dock.get(r, i), 0, Dues.OUTSIDE);
                } else {
                    refused(Stock::ofAllKinds, "lay", dock -> dock.lay(r, i, held[r - 3]), 0, Dues.OUTSIDE);
                    refused(Stock::ofAllKinds, "take", dock -> dock.take(r, i, 11), 0, Dues.OUTSIDE);
                    refused(() -> emptied(11), "lay of nothing", dock -> dock.lay(r, i, 11), 0, Dues.OUTSIDE);
                }
            }
        }
    }

    private void holeChangesNothing() {
        dues.of("A call with a FAULT answers 0 and changes nothing (HOLE)");
        for (int row = 3; row < 9; row++) {
            int r = row;
            Supplier<DockGates> withHole = () -> {
                DockGates dock = emptied(11);
                dock.lay(r, 1, 11);
                return dock;
            };
            refused(withHole, "pass of kind " + row, dock -> dock.pass(r, r), 0, Dues.HOLE);
        }
    }

    private void unfitChangesNothing() {
        dues.of("A call with a FAULT answers 0 and changes nothing (UNFIT)");
        int[][] rowAndLaid = {{4, 11}, {5, 9}, {5, 11}, {8, 4}};
        for (int[] pair : rowAndLaid) {
            for (int i = 0; i < 2; i++) {
                int place = i;
                refused(Stock::ofAllKinds, "lay of kind " + pair[1] + " at kind " + pair[0],
                        dock -> dock.lay(pair[0], place, pair[1]), 0, Dues.UNFIT);
            }
        }
    }

    /** A slot holds nothing; fault() is BAD, so that both 0 and NULL are a change of it. */
    private static DockGates emptied(int slot) {
        DockGates dock = Stock.ofAllKinds();
        dock.empty(slot);
        dock.get(-1, 0);
        return dock;
    }

    private void bad(String call, ToLongFunction<DockGates> refused) {
        refused(Stock::ofAllKinds, call, refused, BAD, 0);
    }

    /** A refused call that turns nothing back: told() tells what it told before. */
    private void refused(Supplier<DockGates> start, String call, ToLongFunction<DockGates> refused, long answer,
            int fault) {
        DockGates dock = start.get();
        dues.due(call, refused.applyAsLong(dock), answer);
        dues.due("fault() after " + call, dock.fault(), fault);
        dues.told(dock, "after " + call, 1, 9, 3);
        changesNothing(start, call, refused);
    }

    private void turned(String call, ToLongFunction<DockGates> refused, int slot, int gate) {
        DockGates dock = Stock.ofAllKinds();
        dues.turned(dock, call, refused.applyAsLong(dock), 2, slot, gate);
        changesNothing(Stock::ofAllKinds, call, refused);
    }

    private void changesNothing(Supplier<DockGates> start, String call, ToLongFunction<DockGates> refused) {
        List<Long> before = seen(start);
        List<Long> after = seen(() -> {
            DockGates dock = start.get();
            refused.applyAsLong(dock);
            return dock;
        });
        dues.due("what is seen after " + call + " is as before", after.equals(before) ? 1 : 0, 1);
    }

    /** All that calls show of a dock but told(), each slot's of a new dock: looking turns things back. */
    private static List<Long> seen(Supplier<DockGates> start) {
        List<Long> seen = new ArrayList<>();
        for (int slot = 0; slot < 12; slot++) {
            DockGates dock = start.get();
            seen.add((long) dock.at(slot));
            seen.add((long) dock.count());
            seen.add((long) dock.size(slot));
            for (int gate = 0; gate < 13; gate++) {
                seen.add((long) dock.fits(slot, gate));
                seen.add(dock.pass(slot, gate));
                seen.add((long) dock.fault());
            }
            for (int i = 0; i < 3; i++) {
                seen.add(dock.get(slot, i));
                seen.add((long) dock.fault());
                seen.add((long) dock.take(slot, i, (slot + 1) % 12));
                seen.add((long) dock.fault());
            }
            seen.add((long) dock.make(9, 1, 0));
        }
        return seen;
    }
}
