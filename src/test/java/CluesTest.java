import java.util.Arrays;

/** Promises 29 to 31: what crossed tells thicks, kinds, the night that tells most. */
public final class CluesTest {
    private static final int BAD = BolsterBeds.BAD, NONE = BolsterBeds.NONE;
    private static final int NOTHING = 1, UNLIKE = 3, SIZE = 5;

    private interface Call {
        int of(int i, int r);
    }

    public static void main(String[] args) {
        thicks();
        thicksInAllThese();
        thicksOfEachKind();
        numbersOfPairs();
        fortyPlaces();
        kinds();
        kindsByThickAsNow();
        test();
        testOfSome();
        byHalvesAsNow();
        testOfNone();
        thicksRefused();
        kindsRefused();
        testRefused();
        Check.end("CluesTest");
    }

    private static void thicks(BolsterBeds x, int i, int due, int... pairs) {
        Check.row(x, 2, pairs);
        long digest = x.digest();
        Check.due("thicks(" + i + ", 2) by " + Arrays.toString(pairs), x.thicks(i, 2), due);
        Check.due("nothing changes by it", x.digest(), digest);
    }

    private static void thicks() {
        Check.promise(29, "How THICK (bits 0 .. 9) a BED's bolster can have been");
        BolsterBeds x = Check.town(Check.ALL_KINDS);
        thicks(x, 0, 1 << 5, 0, 2);
        thicks(x, 0, 1, 0, 7);
        thicks(x, 0, 0, 0, 8);
        // Gap 5, cold 2: still from a bar of 7 on.
        thicks(x, 0, 7 << 7, 0, 0);
        BolsterBeds y = Check.town("n00001 b900");
        for (int thick = 0; thick <= 9; thick++) {
            thicks(y, 0, 1 << thick, 0, 9 - thick);
        }
        Check.due("it tells nothing by asked()", y.asked(), 0);
        Check.promise(29, "Sets (of BEDS, KINDS, numbers 0 .. 9) are told by bits.");
        thicks(x, 4, 1 << 2 | 1 << 3, 0, 4);
        // As thick as it is now is nothing to it.
        y.night();
        thicks(y, 0, 1 << 9, 0, 0);
        y.inspect(0);
        thicks(y, 0, 1, 0, 9);
    }

    private static void thicksInAllThese() {
        Check.promise(29, "in all these.");
        BolsterBeds x = Check.town(Check.ALL_KINDS);
        thicks(x, 0, 1 << 5, 0, 2, 1, 4);
        thicks(x, 0, 1 << 5, 0, 2, 1, 4, 98, 1, 99, 3);
        thicks(x, 0, 0, 0, 2, 1, 5);
        thicks(x, 0, 0, 0, 3, 1, 4);
        thicks(x, 0, 0, 0, 2, 0, 3);
        thicks(x, 2, 0, 0, 2, 1, 4);
        // Still in night 2 from 6 on, in night 0 up to 6.
        thicks(x, 0, 1 << 6, 2, 0, 0, 1);
    }

    private static void thicksOfEachKind() {
        Check.promise(29, "a BED's bolster");
        BolsterBeds x = Check.town(Check.ALL_KINDS);
        // A straw: gap 7, cold 2, 2 more.
        thicks(x, 1, 1 << 3, 0, 4);
        thicks(x, 1, 7 << 7, 0, 0);
        // A quilt: gap 6, cold 2.
        thicks(x, 2, 1 << 4 | 1 << 5, 0, 6);
        thicks(x, 2, 0, 0, 3);
        // A clock tells nothing in nights of odd numbers.
        thicks(x, 3, 1 << 4, 0, 4);
        thicks(x, 3, 1023, 1, 0, 3, 0, 97, 0);
        thicks(x, 3, 0, 1, 1);
        // A thin one: gap 2, cold 2; never just 1.
        thicks(x, 4, 3 << 8, 0, 0);
        thicks(x, 4, 0, 0, 1);
        thicks(x, 4, 1 << 6 | 1 << 7, 0, 2);
        // A wall: gap 9, cold 2: half of 9 - thick.
        thicks(x, 5, 3 << 2, 0, 3);
        thicks(x, 5, 1 << 8 | 1 << 9, 0, 0);
        thicks(x, 5, 1 << 0 | 1 << 1, 0, 4);
    }

    private static void numbersOfPairs() {
        Check.promise(29, "what crossed (a ROW of pairs: a NIGHT 0 .. 99, how many CROSSED in it 0 .. 30)");
        BolsterBeds x = Check.town("n99991 t900");
        thicks(x, 0, 0, 99, 0, 0, 30);
        thicks(x, 0, 3, 99, 19);
        thicks(x, 0, 3, 0, 19);
        BolsterBeds colds = Check.town("n13571 b000");
        int[] cold = {1, 3, 5, 7};
        for (int m : new int[] {0, 1, 2, 3, 4, 50, 97, 98, 99}) {
            thicks(colds, 0, 1, m, cold[m % 4]);
        }
    }

    private static void fortyPlaces() {
        Check.promise(29, "in all these.");
        BolsterBeds x = Check.town("n13571 t900");
        int[] forty = new int[40];
        for (int k = 0; k < 20; k++) {
            forty[2 * k] = 99 - k;
            forty[2 * k + 1] = x.cross(0, 99 - k);
        }
        Check.row(x, 1, forty);
        Check.due("20 pairs", x.thicks(0, 1), 3);
        Check.due("kinds by 20 pairs", x.kinds(0, 1), 1 << 4);
        for (int k = 0; k < 20; k++) {
            x.lay(1, 2 * k + 1, forty[2 * k + 1] - 1);
            Check.due("pair " + k + " tells, too", x.thicks(0, 1), 0);
            x.lay(1, 2 * k + 1, forty[2 * k + 1]);
        }
    }

    private static void kinds(BolsterBeds x, int i, int due, int... pairs) {
        Check.row(x, 5, pairs);
        long digest = x.digest();
        Check.due("kinds(" + i + ", 5) by " + Arrays.toString(pairs), x.kinds(i, 5), due);
        Check.due("nothing changes by it", x.digest(), digest);
    }

    private static void kinds() {
        Check.promise(30, "KINDS (bits) that it can be of by these");
        int bed = 1, straw = 2, quilt = 4, clock = 8, thin = 16, wall = 32;
        // Gap 7, thick 5: 2 cross, in a straw none, in a quilt 5, in a thin one 6.
        BolsterBeds x = Check.town("n00001 b925 w202 c900");
        kinds(x, 0, bed | clock, 0, 2);
        kinds(x, 0, bed, 0, 2, 1, 2);
        kinds(x, 0, clock, 0, 2, 1, 0);
        kinds(x, 0, straw | wall, 0, 0);
        kinds(x, 0, straw | wall | clock, 1, 0);
        kinds(x, 0, quilt, 0, 5);
        kinds(x, 0, thin, 0, 6);
        kinds(x, 0, 0, 0, 3);
        kinds(x, 0, 63);
        kinds(x, 1, bed | straw | clock | wall, 0, 0);
        kinds(x, 1, quilt, 0, 1);
        kinds(x, 1, thin, 0, 2);
        kinds(x, 2, bed | quilt | clock, 0, 9);
        kinds(x, 2, bed | quilt, 99, 9, 0, 9);
        kinds(x, 2, straw, 0, 7);
        kinds(x, 2, wall, 0, 3);
        kinds(x, 2, thin, 0, 10);
        Check.due("it tells nothing by asked()", x.asked(), 0);
    }

    private static void kindsByThickAsNow() {
        Check.promise(30, "THICK as now.");
        BolsterBeds x = Check.town("n00001 b925");
        kinds(x, 0, 1 << 0 | 1 << 3, 0, 2);
        x.thin(0);
        kinds(x, 0, 0, 0, 2);
        kinds(x, 0, 1 << 0 | 1 << 3, 0, 3);
        kinds(x, 0, 1 << 1, 0, 1);
        x.night();
        kinds(x, 0, 1 << 0 | 1 << 3, 0, 4);
        x.inspect(0);
        kinds(x, 0, 1 << 0 | 1 << 1 | 1 << 3 | 1 << 5, 0, 0);
    }

    private static void tests(BolsterBeds x, int i, int night, int part, int... pairs) {
        Check.row(x, 0, pairs);
        long digest = x.digest();
        Check.due("test(" + i + ", 0) by " + Arrays.toString(pairs), x.test(i, 0), night);
        Check.due("its greatest part", x.asked(), part);
        Check.due("nothing changes by it", x.digest(), digest);
    }

    private static void test() {
        Check.promise(31, "The NIGHT (0 .. 7) in which what CROSSES tells KINDS and THICKS (pairs that fit these) apart best: "
            + "the greatest part of those alike is least (the first); that part by asked().");
        tests(Check.town(Check.STILL), 0, 0, 60);
        tests(Check.town("n99991 b009"), 0, 0, 9);
        // By cold 9 in an even night none cross in 1 bed, 3 straws, 1 clock, 4 walls.
        tests(Check.town("n90001 b000"), 0, 0, 9);
        tests(Check.town("n00901 b000"), 0, 2, 9);
        // In an odd night none cross in 1 bed, 3 straws, 10 clocks, 4 walls.
        tests(Check.town("n09001 b000"), 0, 1, 18);
        tests(Check.town("n00091 b000"), 0, 3, 18);
        tests(Check.town("n09091 b000"), 0, 1, 18);
        tests(Check.town("n90901 b000"), 0, 0, 9);
        tests(Check.town("n09901 b000"), 0, 2, 9);
        // Whatever night is due, and how thick it is now.
        BolsterBeds x = Check.town("n00901 b009");
        x.night();
        tests(x, 0, 2, 9);
        x.thin(0);
        x.night();
        x.night();
        tests(x, 0, 2, 9);
    }

    private static void testOfSome() {
        Check.promise(31, "(pairs that fit these)");
        BolsterBeds x = Check.town(Check.ALL_KINDS);
        tests(x, 0, 0, 2, 0, 2, 1, 4);
        tests(x, 4, 1, 5, 0, 4);
        tests(x, 3, 0, 7, 1, 0, 3, 0);
        // 10 cross in a thin one alone, 0 or 1 thick, and in it whenever it is.
        BolsterBeds y = Check.town("n00001 b900");
        tests(y, 0, 0, 2, 0, 10);
        // 9 in a bed, a clock of 0, in quilts of 0 and 1, in thin ones of 2 and 3: the clock is told in night 1.
        tests(y, 0, 1, 5, 0, 9);
        tests(y, 0, 0, 5, 0, 9, 1, 9);
        tests(y, 0, 0, 1, 0, 9, 1, 0);
    }

    private static void byHalvesAsNow() {
        BolsterBeds x = Check.town("n00001 b900 b140");
        // Gap 9: 5 cross in a bed, a clock of 4, a straw of 2, in quilts of 8 and 9.
        Check.promise(31, "(pairs that fit these)");
        tests(x, 0, 1, 4, 0, 5);
        Check.promise(30, "KINDS (bits) that it can be of by these");
        kinds(x, 0, 0, 0, 5);
        Check.promise(29, "a BED's bolster");
        thicks(x, 0, 1 << 4, 0, 5);
        x.swap(0, 1);
        // Gap 5: in a bed, a clock of 0, in quilts of 0 and 1, in thin ones of 2 and 3.
        thicks(x, 0, 1, 0, 5);
        Check.promise(30, "KINDS (bits) that it can be of by these");
        kinds(x, 0, 1 << 0 | 1 << 2 | 1 << 3, 0, 5);
        Check.promise(31, "(pairs that fit these)");
        tests(x, 0, 1, 5, 0, 5);
    }

    private static void testOfNone() {
        Check.promise(31, "NONE: there is no such pair.");
        BolsterBeds x = Check.town(Check.ALL_KINDS);
        Check.row(x, 2, 0, 2, 0, 3);
        x.bed(0, 1);
        Check.refused(x, "test(0, 2)", () -> x.test(0, 2), NONE);
        Check.due("asked() stays", x.asked(), 7);
        Check.row(x, 2, 0, 30);
        x.bed(0, 1);
        Check.refused(x, "test(1, 2)", () -> x.test(1, 2), NONE);
    }

    private static BolsterBeds two() {
        BolsterBeds x = Check.town("n12341 b135 c246");
        x.bed(0, 3);
        x.row(0, 0);
        return x;
    }

    private static void thicksRefused() {
        BolsterBeds x = two();
        BolsterBeds none = new BolsterBeds();
        Check.promise(29, "BAD;");
        bad(x, x::thicks);
        Check.refused(none, "without beds", () -> none.thicks(0, 0), BAD);
        Check.promise(29, "NOTHING;");
        Check.refusedBy(x, "of a missing row", () -> x.thicks(0, 1), NOTHING);
        Check.promise(29, "SIZE: not by pairs (a ROW without places is well);");
        notByPairs(x, x::thicks);
        Check.due("of no places", x.thicks(0, 0), 1023);
        Check.promise(29, "UNLIKE: a number that is none.");
        BolsterBeds y = two();
        numbersThatAreNone(y, y::thicks);
        Check.promise(29, "(In this order.)");
        inThisOrder(y, y::thicks);
    }

    private static void kindsRefused() {
        BolsterBeds x = two();
        BolsterBeds none = new BolsterBeds();
        Check.promise(30, "BAD;");
        bad(x, x::kinds);
        Check.refused(none, "without beds", () -> none.kinds(0, 0), BAD);
        Check.promise(30, "NOTHING;");
        Check.refusedBy(x, "of a missing row", () -> x.kinds(0, 1), NOTHING);
        Check.promise(30, "SIZE;");
        notByPairs(x, x::kinds);
        Check.due("of no places", x.kinds(0, 0), 63);
        Check.promise(30, "UNLIKE.");
        BolsterBeds y = two();
        numbersThatAreNone(y, y::kinds);
        Check.promise(30, "(In this order.)");
        inThisOrder(y, y::kinds);
    }

    private static void testRefused() {
        BolsterBeds x = two();
        BolsterBeds none = new BolsterBeds();
        Check.promise(31, "BAD;");
        bad(x, x::test);
        Check.refused(none, "without beds", () -> none.test(0, 0), BAD);
        Check.promise(31, "NOTHING;");
        Check.refusedBy(x, "of a missing row", () -> x.test(0, 1), NOTHING);
        Check.promise(31, "SIZE;");
        notByPairs(x, x::test);
        Check.due("of no places", x.test(0, 0) >= 0 ? 1 : 0, 1);
        Check.promise(31, "UNLIKE.");
        BolsterBeds y = two();
        numbersThatAreNone(y, y::test);
        Check.promise(31, "(In this order.)");
        inThisOrder(y, y::test);
    }

    private static void bad(BolsterBeds x, Call call) {
        Check.refused(x, "of bed 2", () -> call.of(2, 0), BAD);
        Check.refused(x, "of bed -1", () -> call.of(-1, 0), BAD);
        Check.refused(x, "of row 6", () -> call.of(0, 6), BAD);
        Check.refused(x, "of row -1", () -> call.of(0, -1), BAD);
    }

    /** Row 0 is without places then. */
    private static void notByPairs(BolsterBeds x, Call call) {
        for (int size : new int[] {1, 3, 39}) {
            x.row(0, size);
            Check.refusedBy(x, "of " + size + " places", () -> call.of(0, 0), SIZE);
        }
        x.row(0, 0);
    }

    private static void numbersThatAreNone(BolsterBeds x, Call call) {
        int[][] wrong = {{100, 0}, {-1, 0}, {0, 31}, {0, -1}, {0, 0, 0, 31}, {1, 2, 100, 2}, {100, 2, 1, 2},
            {Integer.MIN_VALUE, Integer.MAX_VALUE}};
        for (int[] pairs : wrong) {
            Check.row(x, 0, pairs);
            Check.refusedBy(x, "by " + Arrays.toString(pairs), () -> call.of(0, 0), UNLIKE);
        }
    }

    private static void inThisOrder(BolsterBeds x, Call call) {
        Check.refused(x, "BAD ahead of NOTHING", () -> call.of(2, 1), BAD);
        Check.row(x, 0, 100, 0, 0);
        Check.refused(x, "BAD ahead of SIZE", () -> call.of(-1, 0), BAD);
        Check.refusedBy(x, "SIZE ahead of UNLIKE", () -> call.of(0, 0), SIZE);
        Check.row(x, 0, 100, 0);
        Check.refused(x, "BAD ahead of UNLIKE", () -> call.of(6, 0), BAD);
    }
}
