/** Promises 15 to 21: nights, inspections, thinnings, swaps, what is undone and kept. */
public final class DeedsTest {
    private static final int BAD = BolsterBeds.BAD, FULL = BolsterBeds.FULL, STATE = BolsterBeds.STATE;
    private static final int NOTHING = 1;

    public static void main(String[] args) {
        night();
        nightWears();
        mostThatLies();
        inspect();
        thin();
        swap();
        withoutBeds();
        full();
        undo();
        keepAndOn();
        keptAreApart();
        Check.end("DeedsTest");
    }

    private static void night() {
        BolsterBeds x = Check.town(Check.ALL_KINDS);
        Check.due("night 0", x.night(), 21);
        Check.due("count(1)", x.count(1), 1);
        Check.due("count(2)", x.count(2), 1);
        Check.due("count(4)", x.count(4), 21);
        Check.due("count(6)", x.count(6), 4);
        Check.due("night 1", x.night(), 29);
        Check.due("count(4) then", x.count(4), 50);
        Check.due("asked() stays", x.asked(), 0);
    }

    private static void nightWears() {
        BolsterBeds x = Check.town("n00001 b200 b300 b301 b411 b523");
        Check.due("2 + 3 + 2 + 2 + 0", x.night(), 9);
        Check.bed(x, 0, 3, 0);
        Check.bed(x, 1, 3, 0);
        Check.bed(x, 2, 3, 1);
        BolsterBeds y = Check.town("n00001 b302 b412 b903 b906");
        y.night();
        Check.bed(y, 0, 3, 2);
        Check.bed(y, 1, 3, 2);
        Check.bed(y, 2, 3, 2);
        Check.bed(y, 3, 3, 5);
    }

    private static void mostThatLies() {
        BolsterBeds x = Check.town("n99999 t900");
        for (int m = 0; m < 5; m++) {
            Check.due("night " + m, x.night(), 19);
        }
        Check.bed(x, 0, 4, 95);
        Check.due("all crossed", x.night(), 19);
        Check.bed(x, 0, 4, 99);
        Check.due("count(4)", x.count(4), 99);
    }

    private static void inspect() {
        BolsterBeds x = Check.town("n00005 b500 b400");
        x.night();
        Check.due("found out by just the thread", x.inspect(0), 5);
        Check.bed(x, 0, 3, 9);
        Check.bed(x, 0, 4, 0);
        Check.bed(x, 0, 7, 1);
        Check.due("one fine", x.count(3), 1);
        Check.due("one less than the thread", x.inspect(1), 0);
        Check.bed(x, 1, 3, 0);
        Check.bed(x, 1, 4, 4);
        Check.bed(x, 1, 7, 0);
        Check.due("one fine still", x.count(3), 1);
        Check.due("three deeds", x.count(2), 3);
        Check.due("no night by it", x.count(1), 1);
        Check.refused(x, "inspect(2)", () -> x.inspect(2), BAD);
        Check.refused(x, "inspect(-1)", () -> x.inspect(-1), BAD);
    }

    private static void thin() {
        BolsterBeds x = Check.town("n00001 b002 q005");
        Check.due("thin(0)", x.thin(0), 1);
        Check.due("thin(0) again", x.thin(0), 0);
        Check.refused(x, "thin(0) of 0", () -> x.thin(0), STATE);
        Check.due("thin(1)", x.thin(1), 4);
        Check.due("deeds", x.count(2), 3);
        Check.refused(x, "thin(2)", () -> x.thin(2), BAD);
        Check.refused(x, "thin(-1)", () -> x.thin(-1), BAD);
    }

    private static void swap() {
        BolsterBeds x = Check.town("n00001 b920 b180");
        x.night();
        Check.due("swap(0, 1)", x.swap(0, 1), 1);
        Check.bed(x, 0, 1, 9);
        Check.bed(x, 0, 2, 8);
        Check.bed(x, 1, 1, 1);
        Check.bed(x, 1, 2, 2);
        Check.bed(x, 0, 4, 7);
        Check.due("swap(1, 0)", x.swap(1, 0), 7);
        Check.bed(x, 0, 2, 2);
        Check.refused(x, "swap(0, 0)", () -> x.swap(0, 0), BAD);
        Check.refused(x, "swap(0, 2)", () -> x.swap(0, 2), BAD);
        Check.refused(x, "swap(2, 0)", () -> x.swap(2, 0), BAD);
        Check.refused(x, "swap(-1, 0)", () -> x.swap(-1, 0), BAD);
        Check.due("deeds", x.count(2), 3);
    }

    private static void withoutBeds() {
        BolsterBeds x = new BolsterBeds();
        Check.refused(x, "night()", x::night, STATE);
        Check.refused(x, "inspect(0)", () -> x.inspect(0), BAD);
        Check.refused(x, "thin(0)", () -> x.thin(0), BAD);
        Check.refused(x, "swap(0, 1)", () -> x.swap(0, 1), BAD);
        Check.due("undo(0)", x.undo(0), 0);
        Check.refused(x, "undo(1)", () -> x.undo(1), BAD);
        Check.refused(x, "keep(0)", () -> x.keep(0), STATE);
        Check.refused(x, "keep(3)", () -> x.keep(3), BAD);
        Check.refusedBy(x, "on(0)", () -> x.on(0), NOTHING);
    }

    private static void full() {
        BolsterBeds x = Check.town("n00001 b001 b009");
        for (int d = 0; d < 39; d++) {
            x.night();
        }
        Check.due("the 40th", x.thin(1), 8);
        Check.due("count(2)", x.count(2), 40);
        Check.refused(x, "night()", x::night, FULL);
        Check.refused(x, "inspect(0)", () -> x.inspect(0), FULL);
        Check.refused(x, "thin(1)", () -> x.thin(1), FULL);
        Check.refused(x, "swap(0, 1)", () -> x.swap(0, 1), FULL);
        Check.refused(x, "inspect(2)", () -> x.inspect(2), BAD);
        Check.refused(x, "swap(1, 1)", () -> x.swap(1, 1), BAD);
        Check.due("undo(39)", x.undo(39), 1);
        Check.due("thin(0)", x.thin(0), 0);
        Check.refused(x, "thin(0) of 0, full", () -> x.thin(0), STATE);
        Check.due("undo(40)", x.undo(40), 0);
    }

    private static void undo() {
        BolsterBeds x = Check.town(Check.ALL_KINDS);
        long[] digests = new long[8];
        for (int d = 0; d < 8; d++) {
            digests[d] = x.digest();
            switch (d) {
                case 2: x.inspect(2); break;
                case 3: x.swap(1, 5); break;
                case 4: x.thin(4); break;
                default: x.night(); break;
            }
        }
        Check.refused(x, "undo(9)", () -> x.undo(9), BAD);
        Check.refused(x, "undo(-1)", () -> x.undo(-1), BAD);
        for (int d = 7; d >= 0; d -= 2) {
            int there = x.count(2);
            Check.due("undo(" + d + ")", x.undo(d), there - d);
            Check.due("as ahead of deed " + d, x.digest(), digests[d]);
        }
        Check.due("undo(0)", x.undo(0), 1);
        Check.due("as at first", x.digest(), digests[0]);
    }

    private static void keepAndOn() {
        BolsterBeds x = Check.town(Check.ALL_KINDS);
        Check.due("keep(0)", x.keep(0), 0);
        x.night();
        x.inspect(2);
        x.swap(0, 1);
        Check.due("keep(2)", x.keep(2), 3);
        Check.due("two are kept", x.count(10), 2);
        long digest = x.digest();
        x.thin(0);
        x.night();
        Check.due("on(2)", x.on(2), 3);
        Check.due("as it was kept", x.digest(), digest);
        Check.due("undo of kept deeds", x.undo(1), 2);
        Check.due("no fine then", x.count(3), 0);
        Check.due("on(2) again", x.on(2), 3);
        Check.due("one fine", x.count(3), 1);
        x.undo(0);
        x.thin(0);
        x.swap(2, 3);
        Check.due("on(2) from elsewhere", x.on(2), 3);
        Check.due("as it was kept, from elsewhere", x.digest(), digest);
        Check.due("on(0)", x.on(0), 0);
        Check.due("night 0", x.count(1), 0);
        Check.due("still two are kept", x.count(10), 2);
        x.night();
        Check.due("keep(0) anew", x.keep(0), 1);
        x.undo(0);
        Check.due("on(0) then", x.on(0), 1);
        Check.refused(x, "keep(3)", () -> x.keep(3), BAD);
        Check.refused(x, "keep(-1)", () -> x.keep(-1), BAD);
        Check.refused(x, "on(3)", () -> x.on(3), BAD);
        Check.refused(x, "on(-1)", () -> x.on(-1), BAD);
        Check.refusedBy(x, "on(1)", () -> x.on(1), NOTHING);
    }

    private static void keptAreApart() {
        BolsterBeds x = Check.town("n12343 b905 w808");
        for (int d = 0; d < 40; d++) {
            x.night();
        }
        Check.due("keep(1)", x.keep(1), 40);
        long digest = x.digest();
        x.undo(3);
        x.inspect(0);
        x.thin(1);
        Check.due("on(1)", x.on(1), 40);
        Check.due("40 deeds as kept", x.digest(), digest);
        Check.refused(x, "night()", x::night, FULL);
    }
}
