/** The boundary cases of 'What it is' and 'Terms', a test for each sentence that names one. */
public final class TermsBoundsTest {
    private static final int NONE = DockGates.NONE, BAD = DockGates.BAD, FULL = DockGates.FULL;

    public static void main(String[] args) {
        Dues dues = new Dues();
        sixtyThings(dues);
        numberedAsMade(dues);
        zeroToEightPlaces(dues);
        placesFromZeroOn(dues);
        numbersAreZeroAtFirst(dues);
        otherPlacesHoldNothing(dues);
        lidIsOpenAtFirst(dues);
        whatLoadsWeigh(dues);
        gatesZeroToTwelve(dues);
        everyThingFitsItsKindsGate(dues);
        whatElseFits(dues);
        nothingFitsNone(dues);
        slotsZeroToEleven(dues);
        nothingAtFirst(dues);
        severalHoldTheSame(dues);
        dues.end();
    }

    private static void sixtyThings(Dues dues) {
        dues.of("THINGS, 60 at most");
        for (int kind = 0; kind < 12; kind++) {
            DockGates dock = new DockGates();
            for (int number = 0; number < 60; number++) {
                dues.fine(dock, "make of thing " + number, dock.make(kind, 8, number % 12), number);
            }
            dues.due("count() of 60", dock.count(), 60);
            dues.fine(dock, "make of thing 60", dock.make(kind, 8, 0), FULL);
            dues.fine(dock, "make of thing 60 again", dock.make(kind, 0, 11), FULL);
            dues.due("count() after FULL", dock.count(), 60);
            dues.due("at(0) after FULL", dock.at(0), 48);
            dues.due("at(11) after FULL", dock.at(11), 59);
        }
    }

    private static void numberedAsMade(Dues dues) {
        dues.of("numbered as they are made");
        DockGates dock = new DockGates();
        dues.due("first", dock.make(11, 1, 7), 0);
        dues.due("refused", dock.make(11, -1, 7), BAD);
        dues.due("next after a refused one", dock.make(0, 1, 7), 1);
        dock.empty(7);
        dues.due("next after an emptied slot", dock.make(0, 1, 2), 2);
    }

    private static void zeroToEightPlaces(Dues dues) {
        dues.of("Rows have 0 to 8 PLACES");
        for (int kind = 0; kind < 9; kind++) {
            DockGates dock = new DockGates();
            for (int n = 0; n <= 8; n++) {
                dues.fine(dock, "row of " + n + " of kind " + kind, dock.make(kind, n, 3), n);
                dues.due("its size", dock.size(3), n);
            }
            dues.fine(dock, "row of -1 of kind " + kind, dock.make(kind, -1, 3), BAD);
            dues.fine(dock, "row of 9 of kind " + kind, dock.make(kind, 9, 3), BAD);
            dues.due("at(3) after BAD", dock.at(3), 8);
        }
    }

    private static void placesFromZeroOn(Dues dues) {
        dues.of("PLACES, from 0 on");
        for (int kind = 0; kind < 9; kind++) {
            for (int n = 0; n <= 8; n++) {
                DockGates dock = Stock.ofOne(kind, n);
                for (int i = -1; i <= 9; i++) {
                    boolean isPlace = i >= 0 && i < n;
                    long got = kind < 3 ? dock.get(0, i) : dock.take(0, i, 1);
                    String call = "place " + i + " of " + n + " of kind " + kind;
                    if (isPlace) {
                        dues.fine(dock, call, got, kind < 3 ? 0 : NONE);
                    } else {
                        dues.fault(dock, call, got, Dues.OUTSIDE);
                    }
                }
            }
        }
    }

    private static void numbersAreZeroAtFirst(Dues dues) {
        dues.of("numbers are 0 at first");
        for (int kind = 0; kind < 3; kind++) {
            DockGates dock = Stock.ofOne(kind, 8);
            Stock.putAll(dock, 0, 8, 77);
            dock.make(kind, 8, 0);
            for (int i = 0; i < 8; i++) {
                dues.fine(dock, "place " + i + " of a new row of kind " + kind, dock.get(0, i), 0);
            }
            dues.fine(dock, "sum of a new row of kind " + kind, dock.pass(0, kind), 0);
        }
    }

    private static void otherPlacesHoldNothing(Dues dues) {
        dues.of("other PLACES hold NOTHING");
        for (int kind = 3; kind < 9; kind++) {
            DockGates dock = Stock.ofOne(kind, 8);
            for (int i = 0; i < 8; i++) {
                dock.make(9, 1, 5);
                dues.fine(dock, "place " + i + " of a new row of kind " + kind, dock.take(0, i, 5), NONE);
                dues.due("at(5)", dock.at(5), NONE);
            }
            dues.fault(dock, "pass of a new row of kind " + kind, dock.pass(0, kind), Dues.HOLE);
        }
    }

    private static void lidIsOpenAtFirst(Dues dues) {
        dues.of("a lid, shut or not (at first not)");
        DockGates dock = Stock.ofOne(10, 5);
        dock.lid(0, true);
        dock.make(10, 5, 0);
        dues.fine(dock, "a new tin at 10", dock.pass(0, 10), 0);
        dues.fine(dock, "a new tin at 12", dock.pass(0, 12), 5);
        dues.fine(dock, "the lid of a new tin", dock.lid(0, true), 0);
    }

    private static void whatLoadsWeigh(Dues dues) {
        int[] amounts = {0, 1, 999999, 1000000};
        for (int amount : amounts) {
            dues.of("a CRATE WEIGHS its WEIGHT");
            dues.due("crate of " + amount, Stock.ofOne(9, amount).pass(0, 12), amount);
            dues.of("a TIN as much and 1 more when it is shut");
            DockGates dock = Stock.ofOne(10, amount);
            dues.due("open tin of " + amount, dock.pass(0, 12), amount);
            dock.lid(0, true);
            dues.due("shut tin of " + amount, dock.pass(0, 12), amount + 1);
            dock.lid(0, false);
            dues.due("opened tin of " + amount, dock.pass(0, 12), amount);
            dues.of("a BARREL 2 for each of its LITRES");
            dues.due("barrel of " + amount, Stock.ofOne(11, amount).pass(0, 12), 2 * amount);
        }
    }

    private static void gatesZeroToTwelve(Dues dues) {
        dues.of("GATES 0 .. 12");
        DockGates dock = Stock.ofOne(9, 4);
        for (int gate = 0; gate <= 12; gate++) {
            boolean fits = gate == 9 || gate == 12;
            dues.fine(dock, "fits at " + gate, dock.fits(0, gate), fits ? 1 : 0);
            dues.due("pass at " + gate, dock.pass(0, gate), fits ? 4 : 0);
            dues.due("fault() of pass at " + gate, dock.fault(), fits ? 0 : Dues.TURNED);
            dues.fine(dock, "seek at " + gate, dock.seek(0, gate, gate), fits ? gate : NONE);
        }
        for (int gate : Dues.NO_GATES) {
            dues.fine(dock, "fits at " + gate, dock.fits(0, gate), BAD);
            dues.fault(dock, "pass at " + gate, dock.pass(0, gate), BAD);
            dues.fine(dock, "seek at " + gate, dock.seek(0, gate, gate), BAD);
        }
    }

    private static void everyThingFitsItsKindsGate(Dues dues) {
        dues.of("A THING FITS its KIND's GATE");
        for (int kind = 0; kind < 12; kind++) {
            for (int n = 0; n <= 8; n += 8) {
                dues.due("kind " + kind + " of " + n, Stock.ofOne(kind, n).fits(0, kind), 1);
            }
        }
    }

    private static void whatElseFits(Dues dues) {
        dues.of("a TIN also 9 and 12");
        fitsNoOtherThan(dues, 10, 9, 12);
        dues.of("a CRATE and a BARREL also 12");
        fitsNoOtherThan(dues, 9, 12, 12);
        fitsNoOtherThan(dues, 11, 12, 12);
        dues.of("TINS also 4 and 6");
        fitsNoOtherThan(dues, 5, 4, 6);
        dues.of("CRATES also 6");
        fitsNoOtherThan(dues, 4, 6, 6);
        dues.of("a TIN STACK also 7");
        fitsNoOtherThan(dues, 8, 7, 7);
        dues.of("A THING FITS its KIND's GATE, and no other is told of these KINDS");
        int[] plain = {0, 1, 2, 3, 6, 7};
        for (int kind : plain) {
            fitsNoOtherThan(dues, kind, kind, kind);
        }
    }

    /** What a kind fits beside its own gate; full rows and rows of no place fit the same. */
    private static void fitsNoOtherThan(Dues dues, int kind, int one, int other) {
        DockGates stocked = Stock.ofAllKinds();
        DockGates least = Stock.ofOne(kind, 0);
        DockGates most = Stock.ofOne(kind, 8);
        for (int gate = 0; gate < 13; gate++) {
            int want = gate == kind || gate == one || gate == other ? 1 : 0;
            String call = "kind " + kind + " at gate " + gate;
            dues.due(call, stocked.fits(kind, gate), want);
            dues.due(call + ", least", least.fits(0, gate), want);
            dues.due(call + ", most", most.fits(0, gate), want);
        }
    }

    private static void nothingFitsNone(Dues dues) {
        dues.of("NOTHING FITS none");
        DockGates dock = Stock.ofOne(10, 3);
        dock.empty(0);
        for (int gate = 0; gate < 13; gate++) {
            dues.fine(dock, "fits of nothing at " + gate, dock.fits(0, gate), 0);
            dues.fine(dock, "seek of nothing at " + gate, dock.seek(0, gate, gate), NONE);
            dues.fault(dock, "pass of nothing at " + gate, dock.pass(0, gate), Dues.NULL);
        }
    }

    private static void slotsZeroToEleven(Dues dues) {
        dues.of("SLOTS 0 .. 11");
        DockGates dock = new DockGates();
        for (int slot = 0; slot <= 11; slot++) {
            dues.fine(dock, "make at slot " + slot, dock.make(10, slot, slot), slot);
        }
        for (int slot = 0; slot <= 11; slot++) {
            dues.due("at(" + slot + ")", dock.at(slot), slot);
            dues.due("weight at slot " + slot, dock.pass(slot, 9), slot);
        }
        for (int slot : Dues.NO_SLOTS) {
            dues.fine(dock, "make at slot " + slot, dock.make(10, 1, slot), BAD);
            dues.due("at(" + slot + ")", dock.at(slot), BAD);
        }
    }

    private static void nothingAtFirst(Dues dues) {
        dues.of("SLOTS hold a THING, or NOTHING (at first)");
        for (int slot = 0; slot <= 11; slot++) {
            DockGates dock = new DockGates();
            dues.due("at(" + slot + ")", dock.at(slot), NONE);
            dues.fault(dock, "size(" + slot + ")", dock.size(slot), Dues.NULL);
            dues.fine(dock, "empty(" + slot + ")", dock.empty(slot), NONE);
        }
    }

    private static void severalHoldTheSame(Dues dues) {
        dues.of("several may hold the same one");
        DockGates dock = Stock.ofOne(10, 5);
        for (int slot = 1; slot <= 11; slot++) {
            dock.share(slot - 1, slot);
        }
        dock.weigh(11, 6);
        dock.lid(4, true);
        for (int slot = 0; slot <= 11; slot++) {
            dues.due("at(" + slot + ")", dock.at(slot), 0);
            dues.due("weight at slot " + slot, dock.pass(slot, 12), 7);
        }
        dues.due("count()", dock.count(), 1);
    }
}
