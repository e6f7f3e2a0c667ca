/** Promises 10 to 14: faults, towns, beds, marks, what would cross. */
public final class TownsTest {
    private static final int BAD = BolsterBeds.BAD, STATE = BolsterBeds.STATE, NONE = BolsterBeds.NONE;
    private static final int NOTHING = 1, UNLIKE = 3;

    public static void main(String[] args) {
        faults();
        faultsByBytes();
        faultRefused();
        town();
        townRefused();
        townAnew();
        bed();
        mark();
        markByNight();
        cross();
        Check.end("TownsTest");
    }

    private static void fault(String text, int want) {
        BolsterBeds x = new BolsterBeds();
        Check.write(x, 2, text);
        Check.due("fault of \"" + text + "\"", x.fault(2), want);
    }

    private static void faults() {
        fault("", 0);
        fault("    ", 4);
        fault("m", 0);
        fault("  N", 2);
        fault("n", 1);
        fault("n12", 3);
        fault("n1234", 5);
        fault("n12345", 6);
        fault("n12345   ", 9);
        fault("n 2345", 1);
        fault("n123 5b000", 4);
        fault("n12340b000", 5);
        fault("n12341b000", NONE);
        fault("n12349b000", NONE);
        fault("n00009b999   ", NONE);
        fault("  n00009  b999s000", NONE);
        fault("n12345x000", 6);
        fault("n12345B000", 6);
        fault("n12345n12345", 6);
        fault("n12345b", 7);
        fault("n12345b1", 8);
        fault("n12345b12", 9);
        fault("n12345b12x", 9);
        fault("n12345b1 2", 8);
        fault("n12345b1234", 10);
        fault("n12345b123 4", 11);
        fault("n12345b123s123q123c123t123w123", NONE);
        fault("n12345b123s123q123c123t123w123 ", NONE);
        fault("n12345b123s123q123c123t123w123b123", 30);
        fault("n12345b123s123q123c123t123w123  b", 32);
        fault("n12345b123s123q123c123t123w123  x", 32);
        fault("n12345b123s123q123c123t123w12", 29);
        fault("n12345bs000", 7);
        fault("n12345b1s000", 8);
        fault("n12345b12s000", 9);
        fault("n12345b000s1", 12);
        fault("n12345b000s12 s000", 13);
        fault("n12b000", 3);
        fault("n1234b000", 5);
        fault("12345b000", 0);
        fault("b000", 0);
        fault("n1234/b000", 5);
        fault("n1234:b000", 5);
        fault("n/2345b000", 1);
        fault("n:2345b000", 1);
    }

    private static void faultsByBytes() {
        BolsterBeds x = new BolsterBeds();
        Check.write(x, 0, "n12345b000");
        x.put(0, 6, 98 + 256);
        Check.due("a letter cut to a byte", x.fault(0), NONE);
        x.put(0, 9, -1);
        Check.due("a byte below 0", x.fault(0), 9);
        x.put(0, 9, 9);
        Check.due("a tab is no blank", x.fault(0), 9);
        x.put(0, 0, 0);
        Check.due("a zero byte", x.fault(0), 0);
    }

    private static void faultRefused() {
        BolsterBeds x = new BolsterBeds();
        Check.refused(x, "fault(-1)", () -> x.fault(-1), BAD);
        Check.refused(x, "fault(4)", () -> x.fault(4), BAD);
        Check.refusedBy(x, "fault(3)", () -> x.fault(3), NOTHING);
    }

    private static void town() {
        BolsterBeds x = new BolsterBeds();
        Check.write(x, 3, "  n98761 w137t246  ");
        Check.due("town(3)", x.town(3), 2);
        Check.due("count(0)", x.count(0), 2);
        Check.due("count(6)", x.count(6), 9);
        Check.bed(x, 0, 0, 5);
        Check.bed(x, 0, 1, 1);
        Check.bed(x, 0, 2, 3);
        Check.bed(x, 0, 3, 7);
        Check.bed(x, 1, 0, 4);
        Check.bed(x, 1, 1, 2);
        Check.bed(x, 1, 2, 4);
        Check.bed(x, 1, 3, 6);
        BolsterBeds all = Check.town("n00001b000s000q000c000t000w000");
        for (int i = 0; i < 6; i++) {
            Check.bed(all, i, 0, i);
        }
    }

    private static void townRefused() {
        BolsterBeds x = Check.town(Check.ALL_KINDS);
        x.night();
        x.keep(1);
        Check.write(x, 1, "n12345");
        Check.refused(x, "town(4)", () -> x.town(4), BAD);
        Check.refused(x, "town(-1)", () -> x.town(-1), BAD);
        Check.refusedBy(x, "town(2)", () -> x.town(2), NOTHING);
        Check.refused(x, "town(1)", () -> x.town(1), STATE);
        Check.write(x, 1, "n12345b123s12");
        Check.refused(x, "town(1) half read", () -> x.town(1), STATE);
    }

    private static void townAnew() {
        BolsterBeds x = Check.town("n99991 b905 q804");
        x.night();
        x.inspect(0);
        x.night();
        x.swap(0, 1);
        x.keep(0);
        x.keep(2);
        Check.due("count(10)", x.count(10), 2);
        Check.write(x, 1, "n12342 s333");
        Check.due("town(1)", x.town(1), 1);
        int[] counts = {1, 0, 0, 0, 0, 0, 1, 0, 0, 2, 0};
        for (int what = 0; what < counts.length; what++) {
            Check.due("anew: count(" + what + ")", x.count(what), counts[what]);
        }
        Check.bed(x, 0, 4, 0);
        Check.bed(x, 0, 7, 0);
        Check.due("bed(1, 0) is gone", x.bed(1, 0), BAD);
        Check.refusedBy(x, "on(0)", () -> x.on(0), NOTHING);
        Check.refusedBy(x, "on(2)", () -> x.on(2), NOTHING);
        Check.due("undo(0)", x.undo(0), 0);
        Check.due("still one bed", x.count(0), 1);
    }

    private static void bed() {
        BolsterBeds x = Check.town(Check.ALL_KINDS);
        int[] crossing = {2, 4, 6, 4, 2, 3};
        int[] bars = {5, 5, 2, 4, 3, 4};
        for (int i = 0; i < 6; i++) {
            Check.bed(x, i, 4, 0);
            Check.bed(x, i, 5, crossing[i]);
            Check.bed(x, i, 6, bars[i]);
            Check.bed(x, i, 7, 0);
        }
        x.night();
        for (int i = 0; i < 6; i++) {
            Check.bed(x, i, 4, crossing[i]);
        }
        Check.bed(x, 0, 3, 5);
        Check.bed(x, 1, 3, 2);
        Check.bed(x, 3, 5, 0);
        x.inspect(2);
        Check.bed(x, 2, 7, 1);
        Check.bed(x, 2, 4, 0);
        Check.bed(x, 2, 3, 9);
        Check.bed(x, 2, 6, 4);
        Check.refused(x, "bed(6, 0)", () -> x.bed(6, 0), BAD);
        Check.refused(x, "bed(-1, 0)", () -> x.bed(-1, 0), BAD);
        Check.refused(x, "bed(0, 8)", () -> x.bed(0, 8), BAD);
        Check.refused(x, "bed(0, -1)", () -> x.bed(0, -1), BAD);
    }

    private static void mark() {
        BolsterBeds x = Check.town(Check.ALL_KINDS);
        int[][] marks = {
            {1, 1, 2}, {5, 1, 6}, {2, 2, 2}, {4, 2, 4}, {3, 3, 0}, {4, 4, 1}, {5, 5, 4}};
        boolean[][] is = new boolean[6][6];
        for (int[] m : marks) {
            Check.due("mark(" + m[0] + ", " + m[1] + ")", x.mark(m[0], m[1]), m[2]);
            is[m[0]][m[1]] = true;
        }
        for (int i = 0; i < 6; i++) {
            for (int kind = 1; kind < 6; kind++) {
                int bed = i;
                int wanted = kind;
                if (!is[i][kind]) {
                    Check.finding(x, "mark(" + i + ", " + kind + ")", () -> x.mark(bed, wanted), UNLIKE);
                }
            }
        }
        Check.due("marks are not told by asked()", x.asked(), 0);
        Check.refused(x, "mark(1, 0)", () -> x.mark(1, 0), BAD);
        Check.refused(x, "mark(1, 6)", () -> x.mark(1, 6), BAD);
        Check.refused(x, "mark(1, -1)", () -> x.mark(1, -1), BAD);
        Check.refused(x, "mark(6, 1)", () -> x.mark(6, 1), BAD);
        Check.refusedBy(x, "mark(0, 1)", () -> x.mark(0, 1), UNLIKE);
    }

    private static void markByNight() {
        BolsterBeds x = Check.town("n10901 c000 t119 w119 s119 t900");
        Check.due("mark(0, 3) in night 0", x.mark(0, 3), 0);
        Check.due("a still thin one", x.mark(1, 4), 0);
        Check.due("a still wall", x.mark(2, 5), 0);
        Check.due("a still straw", x.mark(3, 1), 0);
        Check.due("a thin one of 0 thick", x.mark(4, 2), 0);
        x.night();
        Check.due("mark(0, 3) in night 1", x.mark(0, 3), 1);
        x.night();
        Check.due("mark(0, 3) in night 2", x.mark(0, 3), 0);
        Check.due("the thin one in night 2", x.mark(1, 4), 1);
        Check.due("half of 9", x.mark(1, 2), 5);
        Check.due("the straw still in night 2", x.mark(3, 1), 0);
        x.thin(3);
        Check.due("one less as a straw, being 8 thick", x.mark(3, 1), 1);
    }

    private static void cross() {
        BolsterBeds x = Check.town(Check.ALL_KINDS);
        // Colds 2, 4, 1, 3: by gap and bar as in bed().
        int[][] due = {
            {2, 4, 1, 3}, {4, 6, 3, 5}, {6, 8, 5, 7}, {4, 0, 3, 0}, {2, 4, 0, 3}, {3, 4, 3, 4}};
        for (int i = 0; i < 6; i++) {
            for (int m = 0; m <= 99; m++) {
                Check.due("cross(" + i + ", " + m + ")", x.cross(i, m), due[i][m % 4]);
            }
        }
        Check.refused(x, "cross(0, 100)", () -> x.cross(0, 100), BAD);
        Check.refused(x, "cross(0, -1)", () -> x.cross(0, -1), BAD);
        Check.refused(x, "cross(6, 0)", () -> x.cross(6, 0), BAD);
        Check.refused(x, "cross(-1, 0)", () -> x.cross(-1, 0), BAD);
        x.night();
        Check.due("as it is now: 2 thick", x.cross(1, 0), 5);
    }
}
