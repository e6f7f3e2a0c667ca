/** Promises 29 to 31: what crossed tells thicks, kinds, the night that tells most. */
public final class CluesTest {
    private static final int BAD = BolsterBeds.BAD, NONE = BolsterBeds.NONE;
    private static final int NOTHING = 1, UNLIKE = 3, SIZE = 5;

    private interface Call {
        int of(int i, int r);
    }

    public static void main(String[] args) {
        thicks();
        kinds();
        test();
        testOfNone();
        edges();
        refused();
        Check.end("CluesTest");
    }

    private static void thicks() {
        BolsterBeds x = Check.town(Check.ALL_KINDS);
        Check.row(x, 2, 0, 2, 1, 4);
        long digest = x.digest();
        Check.due("a bed: 5", x.thicks(0, 2), 1 << 5);
        Check.due("a quilt: none", x.thicks(2, 2), 0);
        Check.row(x, 2, 0, 0);
        // Gap 5, cold 2: still from a bar of 7 on.
        Check.due("a bed: 7 to 9", x.thicks(0, 2), 7 << 7);
        // Gap 2, cold 2: from a bar of 4 on.
        Check.due("a thin one: bar 4, 8 and 9", x.thicks(4, 2), 3 << 8);
        Check.row(x, 2, 0, 4);
        Check.due("a thin one: bar 1, 2 and 3", x.thicks(4, 2), 3 << 2);
        Check.row(x, 2, 0, 1);
        Check.due("a thin one has never just 1", x.thicks(4, 2), 0);
        Check.row(x, 2, 0, 3);
        // Gap 9, cold 2: half of 11 - 2 - thick is 3 by 2 and by 3.
        Check.due("a wall: 2 and 3", x.thicks(5, 2), 3 << 2);
        Check.row(x, 2);
        Check.due("a row without places", x.thicks(3, 2), 1023);
        Check.row(x, 2, 1, 0, 3, 0, 97, 0);
        Check.due("a clock tells nothing in odd nights", x.thicks(3, 2), 1023);
        Check.row(x, 2, 1, 1);
        Check.due("nor does any cross", x.thicks(3, 2), 0);
        Check.due("thicks() tells nothing by asked()", x.asked(), 0);
        Check.row(x, 2, 0, 2, 1, 4);
        Check.due("nothing changes", x.digest(), digest);
    }

    private static void kinds() {
        BolsterBeds x = Check.town(Check.ALL_KINDS);
        Check.row(x, 2, 0, 2);
        // Bed 0: gap 5, thick 5, colds 2, 4: a bar of 5, of 7 for straws, of 2 for quilts.
        Check.due("2 cross: bed, clock", x.kinds(0, 2), 1 << 0 | 1 << 3);
        x.night();
        Check.row(x, 2, 0, 2, 1, 4);
        Check.due("thick 5 still: a bed alone", x.kinds(0, 2), 1);
        BolsterBeds y = Check.town("n00001 b925 b202");
        Check.row(y, 0, 0, 2);
        Check.due("gap 7, thick 5: bed, clock", y.kinds(0, 0), 1 << 0 | 1 << 3);
        Check.row(y, 0, 0, 2, 1, 2);
        Check.due("a bed alone", y.kinds(0, 0), 1);
        Check.row(y, 0, 0, 2, 1, 0);
        Check.due("a clock alone", y.kinds(0, 0), 1 << 3);
        Check.row(y, 0, 0, 0);
        Check.due("straw and wall", y.kinds(1, 0) & (1 << 1 | 1 << 5), 1 << 1 | 1 << 5);
        Check.row(y, 0, 0, 6);
        Check.due("a thin one", y.kinds(0, 0), 1 << 4);
        Check.row(y, 0, 0, 5);
        Check.due("a quilt", y.kinds(0, 0), 1 << 2);
        Check.row(y, 0);
        Check.due("any", y.kinds(0, 0), 63);
    }

    private static void test() {
        BolsterBeds x = Check.town(Check.STILL);
        x.row(0, 0);
        Check.due("all alike", x.test(0, 0), 0);
        Check.due("60 alike", x.asked(), 60);
        // Gap 0 and cold only in night 2.
        BolsterBeds y = Check.town("n00901 b000");
        y.row(0, 0);
        Check.due("night 2 tells", y.test(0, 0), 2);
        Check.due("its greatest part", y.asked() < 60 ? 1 : 0, 1);
        BolsterBeds z = Check.town(Check.ALL_KINDS);
        Check.row(z, 2, 0, 2, 1, 4);
        long digest = z.digest();
        Check.due("test(0, 2)", z.test(0, 2), 0);
        Check.due("its part", z.asked(), 2);
        Check.due("nothing changes", z.digest(), digest);
        Check.row(z, 2, 0, 4);
        Check.due("test(4, 2)", z.test(4, 2), 1);
        Check.due("its part", z.asked(), 5);
    }

    private static void testOfNone() {
        BolsterBeds x = Check.town(Check.ALL_KINDS);
        Check.row(x, 2, 0, 2, 0, 3);
        x.bed(0, 1);
        Check.refused(x, "test() of none", () -> x.test(0, 2), NONE);
        Check.due("asked() stays", x.asked(), 7);
    }

    private static void edges() {
        BolsterBeds x = Check.town("n99991 t900");
        Check.row(x, 1, 99, 0, 0, 30);
        Check.due("the greatest numbers are well", x.thicks(0, 1), 0);
        Check.row(x, 1, 99, 19);
        Check.due("19 cross", x.thicks(0, 1), 3);
        BolsterBeds y = Check.town("n13571 t900");
        int[] forty = new int[40];
        for (int k = 0; k < 20; k++) {
            forty[2 * k] = 99 - k;
            forty[2 * k + 1] = y.cross(0, 99 - k);
        }
        Check.row(y, 1, forty);
        Check.due("40 places", y.thicks(0, 1), 3);
        Check.due("40 places of a thin one", y.kinds(0, 1), 1 << 4);
        for (int k = 0; k < 20; k++) {
            y.lay(1, 2 * k + 1, forty[2 * k + 1] - 1);
            Check.due("pair " + k + " tells, too", y.thicks(0, 1), 0);
            y.lay(1, 2 * k + 1, forty[2 * k + 1]);
        }
    }

    private static void refused() {
        BolsterBeds x = Check.town("n12341 b135 c246");
        BolsterBeds none = new BolsterBeds();
        Call[] calls = {x::thicks, x::kinds, x::test};
        Call[] ofNone = {none::thicks, none::kinds, none::test};
        for (int c = 0; c < 3; c++) {
            Call call = calls[c];
            Call bare = ofNone[c];
            String name = new String[] {"thicks", "kinds", "test"}[c];
            x.tear(0);
            Check.refused(x, name + "(2, 0)", () -> call.of(2, 0), BAD);
            Check.refused(x, name + "(-1, 0)", () -> call.of(-1, 0), BAD);
            Check.refused(x, name + "(0, 6)", () -> call.of(0, 6), BAD);
            Check.refused(x, name + "(0, -1)", () -> call.of(0, -1), BAD);
            Check.refused(none, name + " without beds", () -> bare.of(0, 0), BAD);
            Check.refusedBy(x, name + " of a missing row", () -> call.of(0, 0), NOTHING);
            Check.row(x, 0, 100, 0, 0);
            Check.refusedBy(x, name + " of three", () -> call.of(0, 0), SIZE);
            int[][] wrong = {{100, 0}, {-1, 0}, {0, 31}, {0, -1}, {0, 0, 0, 31}, {1, 2, 100, 2}};
            for (int[] pairs : wrong) {
                Check.row(x, 0, pairs);
                Check.refusedBy(x, name + " of no numbers", () -> call.of(0, 0), UNLIKE);
            }
        }
    }
}
