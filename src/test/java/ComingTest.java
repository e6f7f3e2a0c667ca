/** Promises 22 to 24: nights to come, aside. */
public final class ComingTest {
    private static final int BAD = BolsterBeds.BAD, NONE = BolsterBeds.NONE;

    public static void main(String[] args) {
        then();
        thenAsTheNightsPass();
        thenAside();
        when();
        whenOfNone();
        least();
        leastOfNone();
        refused();
        Check.end("ComingTest");
    }

    private static void then(BolsterBeds x, int i, int n, int lie, int thick) {
        Check.due("then(" + i + ", " + n + ")", x.then(i, n), lie);
        Check.due("then(" + i + ", " + n + ") thick", x.asked(), thick);
    }

    private static void then() {
        Check.promise(22, "How many FEATHERS LIE in a BED behind n (0 .. 40) NIGHTS; how THICK it is then by asked().");
        BolsterBeds x = Check.town(Check.ALL_KINDS);
        then(x, 0, 0, 0, 5);
        then(x, 0, 1, 2, 5);
        then(x, 0, 2, 6, 4);
        then(x, 0, 3, 8, 4);
        then(x, 0, 4, 12, 3);
        then(x, 3, 1, 4, 3);
        then(x, 3, 2, 4, 3);
        then(x, 3, 3, 8, 2);
        then(x, 4, 40, 99, 0);
        then(Check.town(Check.STILL), 0, 40, 0, 0);
        BolsterBeds slow = Check.town("n00009 b100 b203");
        for (int n = 0; n <= 40; n++) {
            then(slow, 0, n, n, 0);
            then(slow, 1, n, 0, 3);
        }
        BolsterBeds late = Check.after(40, "n00019 b000 b909");
        // Ten nights of cold 1 have passed, ten more are to come.
        then(late, 0, 0, 10, 0);
        then(late, 0, 3, 10, 0);
        then(late, 0, 4, 11, 0);
        then(late, 0, 40, 20, 0);
    }

    private static void thenAsTheNightsPass() {
        Check.promise(22, "behind n (0 .. 40) NIGHTS");
        BolsterBeds x = Check.after(5, Check.ALL_KINDS);
        x.keep(0);
        for (int i = 0; i < 6; i++) {
            int lie = x.then(i, 7);
            int thick = x.asked();
            for (int d = 0; d < 7; d++) {
                x.night();
            }
            Check.bed(x, i, 4, lie);
            Check.bed(x, i, 3, thick);
            x.on(0);
        }
    }

    private static void thenAside() {
        Check.promise(22, "nights to come (aside, nothing else being done)");
        BolsterBeds x = Check.after(40, "n99991 b905 s803");
        long digest = x.digest();
        for (int n = 0; n <= 40; n += 8) {
            x.then(0, n);
            Check.due("then(0, " + n + ") is aside", x.digest(), digest);
            x.least(1, n);
            Check.due("least(1, " + n + ") is aside", x.digest(), digest);
        }
        x.when(0);
        Check.due("when(0) is aside", x.digest(), digest);
        // Nobody inspects meanwhile: all that crosses lies.
        then(Check.town("n00001 b100"), 0, 40, 40, 0);
    }

    private static void when() {
        Check.promise(23, "Behind how many NIGHTS (0 .. 40) a BED would be FOUND OUT first, INSPECTED.");
        BolsterBeds x = Check.town(Check.ALL_KINDS);
        int[] due = {2, 2, 1, 3, 2, 2};
        for (int i = 0; i < 6; i++) {
            Check.due("when(" + i + ")", x.when(i), due[i]);
        }
        Check.due("it tells nothing by asked()", x.asked(), 0);
        x.night();
        Check.due("found out now", x.when(2), 0);
        Check.due("one night later", x.when(0), 1);
        for (int thread = 1; thread <= 9; thread++) {
            Check.due("thread " + thread, Check.town("n0000" + thread + " b100").when(0), thread);
        }
        Check.due("the thread lies now", Check.after(3, "n00003 b100").when(0), 0);
        Check.due("one less than the thread lies now", Check.after(2, "n00003 b100").when(0), 1);
        // One of cold 1 in four nights crosses: behind 4 k + 4 nights k + 1 lie.
        Check.due("behind 36", Check.town("n00019 b000").when(0), 36);
        Check.due("behind 33", Check.town("n10009 b000").when(0), 33);
        Check.due("behind 35 more", Check.after(1, "n00019 b000").when(0), 35);
        Check.due("behind 28 more", Check.after(8, "n00019 b000").when(0), 28);
        Check.due("from night 37 on", Check.after(37, "n00002 b009 b100").when(1), 0);
        // As a bolster wears thin: 3, 4, 5, ..
        Check.due("wearing thin", Check.town("n00009 b603").when(0), 3);
        Check.due("a clock in its even nights: 2, 2, 2", Check.town("n00005 c200").when(0), 5);
    }

    private static void whenOfNone() {
        Check.promise(23, "NONE: behind none of these.");
        Check.due("nothing crosses", Check.town(Check.STILL).when(0), NONE);
        Check.due("no more than the bar", Check.town("n00001 b303").when(0), NONE);
        Check.due("of a clock none in night 3, 7, ..", Check.town("n00011 c000").when(0), NONE);
        Check.due("but of a bed: 2 in night 0, 2 in night 4", Check.after(1, "n20004 b000").when(0), 4);
        BolsterBeds y = Check.after(1, "n00009 b800 b888");
        y.swap(0, 1);
        Check.due("eight lie, no more will", y.when(0), NONE);
        y.at(5, 0);
        y.bed(0, 4);
        Check.refused(y, "NONE changes nothing", () -> y.when(0), NONE);
    }

    private static void least() {
        Check.promise(24, "How often at least a BED has to be THINNED now so that it would be FOUND OUT behind n (0 .. 40) "
            + "NIGHTS.");
        BolsterBeds x = Check.town(Check.ALL_KINDS);
        int[] due = {3, 1, 0, 1, 6, NONE};
        for (int i = 0; i < 6; i++) {
            Check.due("least(" + i + ", 1)", x.least(i, 1), due[i]);
        }
        Check.due("least(4, 2)", x.least(4, 2), 0);
        Check.due("it tells nothing by asked()", x.asked(), 0);
        x.night();
        Check.due("found out now", x.least(2, 0), 0);
        Check.due("found out now, so then", x.least(2, 40), 0);
        BolsterBeds all = Check.town("n00009 b909");
        Check.due("all of it", all.least(0, 1), 9);
        // Being 5 thick, 4 cross and 5; being 6 thick, 3 and 4.
        Check.due("behind two nights", all.least(0, 2), 4);
        BolsterBeds one = Check.town("n00009 b101");
        Check.due("one in each of nine nights", one.least(0, 9), 1);
        Check.due("one in each of eight nights", one.least(0, 8), NONE);
        Check.due("one in each of 40 nights", one.least(0, 40), 1);
        BolsterBeds full = Check.after(40, "n00003 b307");
        Check.due("by all of it, though there are 40 deeds", full.least(0, 1), 7);
        Check.due("behind two nights of 2", full.least(0, 2), 6);
        Check.due("behind three nights of 1", full.least(0, 3), 5);
        BolsterBeds sealed = Check.after(1, "n00005 b900");
        sealed.inspect(0);
        Check.due("9 thick, though it was less at first", sealed.least(0, 1), 5);
    }

    private static void leastOfNone() {
        Check.promise(24, "NONE: not by any.");
        Check.due("behind no nights", Check.town("n00001 b900").least(0, 0), NONE);
        Check.due("not thick", Check.town(Check.STILL).least(0, 40), NONE);
        Check.due("one less than the thread", Check.town("n00009 b809").least(0, 1), NONE);
        BolsterBeds clock = Check.after(1, "n00001 c909");
        Check.due("a clock in an odd night", clock.least(0, 1), NONE);
        Check.due("in an even one, too", clock.least(0, 2), 1);
        BolsterBeds x = Check.town("n00002 b101");
        x.bed(0, 1);
        Check.refused(x, "NONE changes nothing", () -> x.least(0, 1), NONE);
    }

    private static void refused() {
        int[][] wrong = {{2, 0}, {-1, 0}, {0, 41}, {0, -1}, {6, 41}};
        BolsterBeds none = new BolsterBeds();
        BolsterBeds x = Check.town("n00001 b909 b300");
        x.bed(0, 1);
        Check.promise(22, "BAD.");
        for (int[] w : wrong) {
            Check.refused(x, "then(" + w[0] + ", " + w[1] + ")", () -> x.then(w[0], w[1]), BAD);
        }
        Check.refused(none, "then(0, 0) without beds", () -> none.then(0, 0), BAD);
        Check.promise(23, "BAD.");
        Check.refused(x, "when(2)", () -> x.when(2), BAD);
        Check.refused(x, "when(-1)", () -> x.when(-1), BAD);
        Check.refused(none, "when(0) without beds", () -> none.when(0), BAD);
        Check.promise(24, "BAD.");
        for (int[] w : wrong) {
            Check.refused(x, "least(" + w[0] + ", " + w[1] + ")", () -> x.least(w[0], w[1]), BAD);
        }
        Check.refused(none, "least(0, 0) without beds", () -> none.least(0, 0), BAD);
    }
}
