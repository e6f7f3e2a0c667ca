/** Promises 15 to 21: nights, inspections, thinnings, swaps, what is undone and kept. */
public final class DeedsTest {
    private static final int BAD = BolsterBeds.BAD, FULL = BolsterBeds.FULL, STATE = BolsterBeds.STATE;
    private static final int NOTHING = 1;

    public static void main(String[] args) {
        night();
        nightWears();
        mostThatLies();
        nightRefused();
        inspect();
        inspectAnew();
        inspectRefused();
        thin();
        thinRefused();
        swap();
        swapRefused();
        deeds();
        undo();
        undoRefused();
        keep();
        keepRefused();
        on();
        onOfFull();
        onRefused();
        Check.end("DeedsTest");
    }

    private static void night() {
        Check.promise(15, "A NIGHT passes: how many FEATHERS CROSSED in all.");
        BolsterBeds x = Check.town(Check.ALL_KINDS);
        Check.due("night 0", x.night(), 2 + 4 + 6 + 4 + 2 + 3);
        Check.due("night 1 is due", x.count(1), 1);
        Check.due("one deed", x.count(2), 1);
        Check.due("its cold", x.count(6), 4);
        Check.due("night 1", x.night(), 4 + 7 + 9 + 0 + 4 + 5);
        Check.due("night 2 is due", x.count(1), 2);
        Check.due("it tells nothing by asked()", x.asked(), 0);
        Check.promise(15, "When a NIGHT passes, the FEATHERS that CROSS come to those that LIE in each BED");
        int[] lie = {2 + 4, 4 + 7, 6 + 9, 4 + 0, 2 + 4, 3 + 5};
        for (int i = 0; i < 6; i++) {
            Check.bed(x, i, 4, lie[i]);
        }
        Check.due("in all", x.count(4), 50);
        Check.due("no fine by it", x.count(3), 0);
    }

    private static void wears(String bed, int crossed, int thick) {
        BolsterBeds x = Check.town("n00001" + bed);
        Check.due("night of " + bed, x.night(), crossed);
        Check.bed(x, 0, 3, thick);
    }

    private static void nightWears() {
        Check.promise(15, "of a BED in which 3 or more CROSS, THICK is 1 less then (0 at least).");
        wears("b201", 1, 1);
        wears("b301", 2, 1);
        wears("b401", 3, 0);
        wears("b501", 4, 0);
        wears("b906", 3, 5);
        wears("b907", 2, 7);
        wears("b300", 3, 0);
        wears("b900", 9, 0);
        wears("s901", 6, 0);
        wears("s904", 3, 3);
        wears("s905", 2, 5);
        wears("q609", 2, 9);
        wears("q709", 3, 8);
        wears("c401", 3, 0);
        wears("t609", 3, 8);
        wears("t509", 2, 9);
        wears("w901", 3, 0);
        wears("w802", 2, 2);
        BolsterBeds x = Check.town("n00001 b402 b909 c909 b907");
        x.night();
        Check.bed(x, 0, 3, 2);
        Check.due("in night 1, too", x.night(), 2 + 0 + 0 + 2);
        Check.bed(x, 0, 3, 2);
        Check.bed(x, 1, 3, 9);
        // What crosses counts, though 99 lie already.
        BolsterBeds heap = Check.town("n90001 t909");
        heap.night();
        Check.bed(heap, 0, 3, 8);
        for (int m = 1; m < 20; m++) {
            heap.night();
        }
        Check.bed(heap, 0, 3, 0);
    }

    private static void mostThatLies() {
        Check.promise(15, "(99 at most lie)");
        BolsterBeds x = Check.town("n99999 t900 b900");
        for (int m = 0; m < 5; m++) {
            Check.due("night " + m, x.night(), 19 + 18);
        }
        Check.bed(x, 0, 4, 95);
        Check.bed(x, 1, 4, 90);
        Check.due("all crossed in night 5", x.night(), 19 + 18);
        Check.bed(x, 0, 4, 99);
        Check.bed(x, 1, 4, 99);
        Check.due("all crossed in night 6", x.night(), 19 + 18);
        Check.bed(x, 0, 4, 99);
        Check.due("99 in each", x.count(4), 198);
        BolsterBeds y = Check.after(11, "n00009 b900");
        Check.bed(y, 0, 4, 99);
        y.inspect(0);
        y.undo(10);
        Check.bed(y, 0, 4, 90);
    }

    private static void nightRefused() {
        BolsterBeds none = new BolsterBeds();
        Check.promise(15, "STATE: no BEDS");
        Check.refused(none, "night()", none::night, STATE);
        Check.promise(15, "FULL: 40 DEEDS. (FULL last.)");
        BolsterBeds x = Check.after(40, "n00001 b001 b009");
        Check.due("40 deeds", x.count(2), 40);
        Check.refused(x, "night()", x::night, FULL);
        x.undo(39);
        Check.due("a 40th", x.night(), 0);
        Check.refused(x, "night() again", x::night, FULL);
    }

    private static void inspect() {
        Check.promise(16, "how many LAY there, if it is, else 0.");
        BolsterBeds x = Check.town("n00005 b500 b400 b900 b500");
        Check.due("none lie", x.inspect(0), 0);
        x.night();
        Check.due("just the thread", x.inspect(0), 5);
        Check.due("one less than the thread", x.inspect(1), 0);
        Check.due("more than the thread", x.inspect(2), 9);
        Check.promise(16, "INSPECTED, a BED in which as many LIE as the THREAD, or more, is FOUND OUT: there is a FINE more, "
            + "none LIE, THICK is 9 (sealed anew);");
        Check.due("two fines", x.count(3), 2);
        int[][] due = {{9, 0, 1}, {0, 4, 0}, {9, 0, 1}, {0, 5, 0}};
        for (int i = 0; i < 4; i++) {
            Check.bed(x, i, 3, due[i][0]);
            Check.bed(x, i, 4, due[i][1]);
            Check.bed(x, i, 7, due[i][2]);
        }
        Check.promise(16, "else nothing changes.");
        Check.due("found out already", x.inspect(0), 0);
        Check.bed(x, 0, 3, 9);
        Check.bed(x, 0, 7, 1);
        Check.due("two fines still", x.count(3), 2);
        Check.promise(16, "A BED is INSPECTED (a DEED also, if it is not FOUND OUT):");
        Check.due("six deeds", x.count(2), 6);
        Check.due("no night by them", x.count(1), 1);
        Check.due("undo of one that found nothing", x.undo(5), 1);
        Check.due("undo of one that found", x.undo(4), 1);
        Check.bed(x, 2, 4, 9);
        Check.due("it tells nothing else by asked()", x.asked(), 9);
    }

    private static void inspectAnew() {
        Check.promise(16, "or more, is FOUND OUT");
        for (int thread = 1; thread <= 9; thread++) {
            BolsterBeds x = Check.town("n0000" + thread + " b500");
            x.night();
            Check.due("5 lie, thread " + thread, x.inspect(0), thread <= 5 ? 5 : 0);
            Check.due("fines", x.count(3), thread <= 5 ? 1 : 0);
        }
        BolsterBeds x = Check.town("n99991 b900");
        x.night();
        Check.due("found out", x.inspect(0), 18);
        x.night();
        Check.due("found out again", x.inspect(0), 9);
        x.night();
        Check.due("and again", x.inspect(0), 9);
        Check.bed(x, 0, 7, 3);
        Check.due("three fines", x.count(3), 3);
    }

    private static void inspectRefused() {
        BolsterBeds x = Check.after(40, "n00001 b001 b100");
        Check.promise(16, "BAD;");
        Check.refused(x, "inspect(2)", () -> x.inspect(2), BAD);
        Check.refused(x, "inspect(-1)", () -> x.inspect(-1), BAD);
        BolsterBeds none = new BolsterBeds();
        Check.refused(none, "inspect(0) without beds", () -> none.inspect(0), BAD);
        Check.promise(16, "FULL. (FULL last.)");
        Check.refused(x, "inspect(0)", () -> x.inspect(0), FULL);
        Check.refused(x, "inspect(1), that would be found out", () -> x.inspect(1), FULL);
        Check.refused(x, "BAD ahead of FULL", () -> x.inspect(6), BAD);
        x.undo(39);
        Check.due("a 40th", x.inspect(1), 39);
        Check.due("40 deeds", x.count(2), 40);
    }

    private static void thin() {
        Check.promise(17, "A BED is THINNED: how THICK it is then.");
        BolsterBeds x = Check.town("n00001 b009 q005 b003");
        for (int thick = 8; thick >= 0; thick--) {
            Check.due("thin(0)", x.thin(0), thick);
            Check.bed(x, 0, 3, thick);
        }
        Check.due("thin(1)", x.thin(1), 4);
        Check.bed(x, 1, 6, 2);
        Check.bed(x, 2, 3, 3);
        Check.due("ten deeds", x.count(2), 10);
        Check.due("no night by them", x.count(1), 0);
        Check.due("nothing lies", x.count(4), 0);
    }

    private static void thinRefused() {
        BolsterBeds x = Check.town("n00001 b001 b000");
        Check.promise(17, "BAD;");
        Check.refused(x, "thin(2)", () -> x.thin(2), BAD);
        Check.refused(x, "thin(-1)", () -> x.thin(-1), BAD);
        BolsterBeds none = new BolsterBeds();
        Check.refused(none, "thin(0) without beds", () -> none.thin(0), BAD);
        Check.promise(17, "STATE: it is 0;");
        Check.refused(x, "thin(1)", () -> x.thin(1), STATE);
        Check.due("thin(0)", x.thin(0), 0);
        Check.refused(x, "thin(0)", () -> x.thin(0), STATE);
        Check.promise(17, "FULL. (FULL last.)");
        BolsterBeds full = Check.after(40, "n00001 b001 b000");
        Check.refused(full, "thin(0)", () -> full.thin(0), FULL);
        Check.refused(full, "STATE ahead of FULL", () -> full.thin(1), STATE);
        Check.refused(full, "BAD ahead of FULL", () -> full.thin(2), BAD);
        full.undo(39);
        Check.due("a 40th", full.thin(0), 0);
        Check.due("40 deeds", full.count(2), 40);
    }

    private static void swap() {
        Check.promise(18, "Two BEDS change their RIGHT halves: the GAP of the first one then.");
        BolsterBeds x = Check.town("n00001 b920 b180 w555");
        x.night();
        Check.due("swap(0, 1)", x.swap(0, 1), 1);
        int[][] due = {{0, 9, 8, 0, 7, 1, 0, 0}, {0, 1, 2, 0, 7, 1, 0, 0}, {5, 5, 5, 5, 0, 0, 7, 0}};
        for (int i = 0; i < 3; i++) {
            for (int what = 0; what < 8; what++) {
                Check.bed(x, i, what, due[i][what]);
            }
        }
        Check.due("swap(1, 0)", x.swap(1, 0), 7);
        Check.bed(x, 0, 2, 2);
        Check.due("swap(2, 0)", x.swap(2, 0), 3);
        Check.bed(x, 0, 2, 5);
        Check.bed(x, 2, 2, 2);
        Check.due("four deeds", x.count(2), 4);
        Check.due("no night by them", x.count(1), 1);
        Check.due("no gap", Check.town("n00001 b550 b550").swap(1, 0), 0);
    }

    private static void swapRefused() {
        BolsterBeds x = Check.town("n00001 b920 b180");
        Check.promise(18, "BAD: also alike;");
        Check.refused(x, "swap(0, 0)", () -> x.swap(0, 0), BAD);
        Check.refused(x, "swap(1, 1)", () -> x.swap(1, 1), BAD);
        Check.refused(x, "swap(0, 2)", () -> x.swap(0, 2), BAD);
        Check.refused(x, "swap(2, 0)", () -> x.swap(2, 0), BAD);
        Check.refused(x, "swap(-1, 0)", () -> x.swap(-1, 0), BAD);
        Check.refused(x, "swap(0, -1)", () -> x.swap(0, -1), BAD);
        Check.refused(x, "swap(2, 2)", () -> x.swap(2, 2), BAD);
        BolsterBeds none = new BolsterBeds();
        Check.refused(none, "swap(0, 1) without beds", () -> none.swap(0, 1), BAD);
        Check.promise(18, "FULL. (FULL last.)");
        BolsterBeds full = Check.after(40, "n00001 b010 b020");
        Check.refused(full, "swap(0, 1)", () -> full.swap(0, 1), FULL);
        Check.refused(full, "BAD ahead of FULL", () -> full.swap(0, 0), BAD);
        Check.refused(full, "BAD ahead of FULL, too", () -> full.swap(0, 2), BAD);
        full.undo(39);
        Check.due("a 40th", full.swap(0, 1), 2);
        Check.due("40 deeds", full.count(2), 40);
    }

    /** Eight deeds of all sorts, number d being the next. */
    private static void deed(BolsterBeds x, int d) {
        switch (d % 8) {
            case 2: x.inspect(2); break;
            case 3: x.swap(1, 5); break;
            case 4: x.thin(4); break;
            case 6: x.inspect(4); break;
            default: x.night(); break;
        }
    }

    private static void deeds() {
        Check.promise(19, "What is done: a NIGHT passes, a BED is INSPECTED, THINNED (THICK 1 less), two BEDS change their "
            + "RIGHT halves. These are DEEDS (40 at most).");
        BolsterBeds x = Check.town(Check.ALL_KINDS);
        for (int d = 0; d < 40; d++) {
            Check.due("deeds", x.count(2), d);
            deed(x, d);
        }
        Check.due("40 deeds", x.count(2), 40);
        deed(x, 0);
        deed(x, 2);
        deed(x, 3);
        deed(x, 4);
        x.lots(1, 5);
        Check.due("still 40", x.count(2), 40);
        x.mark(1, 1);
        x.then(0, 9);
        x.round(1, 0);
        x.duel(1);
        Check.due("nor by what is asked", x.count(2), 40);
    }

    private static void undo() {
        Check.promise(19, "DEEDS from number n on (n 0 to how many there are: then 0) are undone: how many.");
        BolsterBeds x = Check.town(Check.ALL_KINDS);
        long[] digests = new long[17];
        for (int d = 0; d < 16; d++) {
            digests[d] = x.digest();
            deed(x, d);
        }
        digests[16] = x.digest();
        Check.due("undo(16): none", x.undo(16), 0);
        Check.due("as it was", x.digest(), digests[16]);
        int there = 16;
        for (int d : new int[] {15, 14, 12, 11, 10, 7, 7, 6, 4, 3, 2, 1, 0, 0}) {
            Check.due("undo(" + d + ")", x.undo(d), there - d);
            Check.due("as ahead of deed " + d, x.digest(), digests[d]);
            there = d;
        }
        BolsterBeds y = Check.after(40, "n00001 b100");
        Check.due("undo(40)", y.undo(40), 0);
        Check.due("undo(0): 40", y.undo(0), 40);
        Check.due("no deeds", y.count(2), 0);
        Check.due("nothing lies", y.count(4), 0);
        Check.due("goes on", y.night(), 1);
        Check.due("it tells nothing by asked()", y.asked(), 0);
    }

    private static void undoRefused() {
        Check.promise(19, "BAD.");
        BolsterBeds x = Check.town(Check.ALL_KINDS);
        x.night();
        x.night();
        Check.refused(x, "undo(3)", () -> x.undo(3), BAD);
        Check.refused(x, "undo(-1)", () -> x.undo(-1), BAD);
        Check.refused(x, "undo(greatest)", () -> x.undo(Integer.MAX_VALUE), BAD);
        BolsterBeds none = new BolsterBeds();
        Check.due("undo(0) without beds", none.undo(0), 0);
        Check.refused(none, "undo(1) without beds", () -> none.undo(1), BAD);
        BolsterBeds full = Check.after(40, "n00001 b100");
        Check.refused(full, "undo(41)", () -> full.undo(41), BAD);
    }

    private static void keep() {
        Check.promise(20, "The TOWN (as it is, DEEDS) is kept in a place (0 .. 2): how many DEEDS.");
        BolsterBeds x = Check.town(Check.ALL_KINDS);
        Check.due("keep(0)", x.keep(0), 0);
        x.night();
        Check.due("keep(1)", x.keep(1), 1);
        x.inspect(2);
        x.swap(0, 1);
        Check.due("keep(2)", x.keep(2), 3);
        Check.due("three are kept", x.count(10), 3);
        Check.due("nothing is done by it", x.count(2), 3);
        x.undo(0);
        Check.due("on(2)", x.on(2), 3);
        Check.due("on(1)", x.on(1), 1);
        Check.due("on(0)", x.on(0), 0);
        x.thin(0);
        x.thin(1);
        Check.due("keep(1) anew", x.keep(1), 2);
        Check.due("still three", x.count(10), 3);
        x.undo(0);
        Check.due("on(1) anew", x.on(1), 2);
        Check.bed(x, 1, 3, 2);
        Check.due("keep(0) of a full one", Check.after(40, "n00001 b100").keep(0), 40);
    }

    private static void keepRefused() {
        BolsterBeds x = Check.town(Check.STILL);
        x.night();
        BolsterBeds none = new BolsterBeds();
        Check.promise(20, "BAD;");
        Check.refused(x, "keep(3)", () -> x.keep(3), BAD);
        Check.refused(x, "keep(-1)", () -> x.keep(-1), BAD);
        Check.promise(20, "STATE: no BEDS.");
        for (int k = 0; k <= 2; k++) {
            int number = k;
            Check.refused(none, "keep(" + k + ")", () -> none.keep(number), STATE);
        }
        Check.promise(20, "Refused is, the first of these that fits, in this order: BAD -1 (a number that is none, "
            + "or not as told), FULL -2, STATE -4 (not now), SPENT -6 (more than told), FINDING -3 (finding() tells which), "
            + "unless a call says so otherwise.");
        Check.refused(none, "keep(3): BAD ahead of STATE", () -> none.keep(3), BAD);
        Check.refused(none, "keep(-1): BAD ahead of STATE", () -> none.keep(-1), BAD);
    }

    private static void on() {
        Check.promise(21, "The TOWN is as it was kept: how many DEEDS.");
        BolsterBeds x = Check.town(Check.ALL_KINDS);
        for (int d = 0; d < 7; d++) {
            deed(x, d);
        }
        x.keep(0);
        x.keep(1);
        long digest = x.digest();
        x.thin(0);
        x.night();
        Check.due("on(1), from later on", x.on(1), 7);
        Check.due("as it was kept, from later on", x.digest(), digest);
        x.undo(2);
        x.swap(3, 4);
        x.night();
        Check.due("on(1), from elsewhere", x.on(1), 7);
        Check.due("as it was kept, from elsewhere", x.digest(), digest);
        x.undo(0);
        x.thin(5);
        x.thin(4);
        Check.due("on(1), from other deeds", x.on(1), 7);
        Check.due("as it was kept, from other deeds", x.digest(), digest);
        Check.due("its deeds are undone", x.undo(2), 5);
        Check.due("no fine then", x.count(3), 0);
        Check.due("on(0), as kept as the other one", x.on(0), 7);
        Check.due("as it was kept, again", x.digest(), digest);
        Check.due("two are kept still", x.count(10), 2);
        Check.due("it tells nothing by asked()", x.asked(), 0);
    }

    private static void onOfFull() {
        Check.promise(21, "as it was kept");
        BolsterBeds x = Check.after(40, "n12343 b905 w808");
        Check.due("keep(1)", x.keep(1), 40);
        long digest = x.digest();
        x.undo(3);
        x.inspect(0);
        x.thin(1);
        Check.due("on(1)", x.on(1), 40);
        Check.due("40 deeds as kept", x.digest(), digest);
        Check.refused(x, "night()", x::night, FULL);
        x.undo(0);
        x.keep(1);
        x.night();
        Check.due("on(1) of none", x.on(1), 0);
        Check.due("night 0 again", x.count(1), 0);
        Check.due("nothing lies", x.count(4), 0);
    }

    private static void onRefused() {
        BolsterBeds x = Check.town(Check.STILL);
        x.night();
        x.keep(0);
        BolsterBeds none = new BolsterBeds();
        Check.promise(21, "BAD; NOTHING.");
        Check.refused(x, "on(3)", () -> x.on(3), BAD);
        Check.refused(x, "on(-1)", () -> x.on(-1), BAD);
        Check.refusedBy(x, "on(1)", () -> x.on(1), NOTHING);
        Check.refusedBy(x, "on(2)", () -> x.on(2), NOTHING);
        Check.refusedBy(none, "on(0) without beds", () -> none.on(0), NOTHING);
        Check.refused(none, "on(3) without beds", () -> none.on(3), BAD);
    }
}
