/** Promises 22 to 24: nights to come, aside. */
public final class ComingTest {
    private static final int BAD = BolsterBeds.BAD, NONE = BolsterBeds.NONE;

    public static void main(String[] args) {
        then();
        thenFromLaterOn();
        when();
        least();
        refused();
        Check.end("ComingTest");
    }

    private static void then(BolsterBeds x, int i, int n, int lie, int thick) {
        long digest = x.digest();
        Check.due("then(" + i + ", " + n + ")", x.then(i, n), lie);
        Check.due("then(" + i + ", " + n + ") thick", x.asked(), thick);
        Check.due("then(" + i + ", " + n + ") is aside", x.digest(), digest);
    }

    private static void then() {
        BolsterBeds x = Check.town(Check.ALL_KINDS);
        then(x, 0, 0, 0, 5);
        then(x, 0, 1, 2, 5);
        then(x, 0, 2, 6, 4);
        then(x, 0, 3, 8, 4);
        then(x, 0, 4, 12, 3);
        then(x, 3, 1, 4, 3);
        then(x, 3, 2, 4, 3);
        then(x, 3, 3, 8, 2);
        then(x, 4, 40, 99, 0);
        then(Check.town(Check.STILL), 0, 40, 0, 0);
    }

    private static void thenFromLaterOn() {
        BolsterBeds x = Check.town(Check.ALL_KINDS);
        for (int d = 0; d < 5; d++) {
            x.night();
        }
        for (int i = 0; i < 6; i++) {
            int lie = x.then(i, 7);
            int thick = x.asked();
            x.keep(0);
            for (int d = 0; d < 7; d++) {
                x.night();
            }
            Check.bed(x, i, 4, lie);
            Check.bed(x, i, 3, thick);
            x.on(0);
        }
    }

    private static void when() {
        BolsterBeds x = Check.town(Check.ALL_KINDS);
        int[] due = {2, 2, 1, 3, 2, 2};
        long digest = x.digest();
        for (int i = 0; i < 6; i++) {
            Check.due("when(" + i + ")", x.when(i), due[i]);
        }
        Check.due("when() is aside", x.digest(), digest);
        Check.due("when() tells nothing by asked()", x.asked(), 0);
        x.night();
        Check.due("found out now", x.when(2), 0);
        Check.due("one night later", x.when(0), 1);
        Check.due("never", Check.town(Check.STILL).when(0), NONE);
        // One of cold 1 in four nights crosses: behind 4 k + 4 nights k + 1 lie.
        Check.due("behind 36", Check.town("n00019 b000").when(0), 36);
        Check.due("behind 33", Check.town("n10009 b000").when(0), 33);
        BolsterBeds late = Check.town("n00019 b000");
        late.night();
        Check.due("behind 35 more", late.when(0), 35);
        BolsterBeds forty = Check.town("n00019 b000");
        for (int d = 0; d < 8; d++) {
            forty.night();
        }
        Check.due("two lie", forty.count(4), 2);
        Check.due("behind 28 more", forty.when(0), 28);
        // Of a clock none crosses in night 3, 7, ..
        Check.due("behind none", Check.town("n00011 c000").when(0), NONE);
    }

    private static void least() {
        BolsterBeds x = Check.town(Check.ALL_KINDS);
        long digest = x.digest();
        Check.due("least(0, 1)", x.least(0, 1), 3);
        Check.due("least(1, 1)", x.least(1, 1), 1);
        Check.due("least(2, 1)", x.least(2, 1), 0);
        Check.due("least(3, 1)", x.least(3, 1), 1);
        Check.due("least(4, 1)", x.least(4, 1), 6);
        Check.due("least(5, 1)", x.least(5, 1), NONE);
        Check.due("least(4, 2)", x.least(4, 2), 0);
        Check.due("least(4, 0)", x.least(4, 0), NONE);
        Check.due("least() is aside", x.digest(), digest);
        Check.due("least() tells nothing by asked()", x.asked(), 0);
        x.night();
        Check.due("found out now", x.least(2, 0), 0);
        Check.due("never", Check.town(Check.STILL).least(0, 40), NONE);
        BolsterBeds all = Check.town("n00009 b909");
        Check.due("all of it", all.least(0, 1), 9);
        Check.due("by two nights", all.least(0, 2), 4);
        Check.due("one more than there is", Check.town("n00009 b809").least(0, 1), NONE);
    }

    private static void refused() {
        BolsterBeds x = Check.town("n00001 b909 b300");
        x.bed(0, 1);
        int[][] wrong = {{2, 0}, {-1, 0}, {0, 41}, {0, -1}};
        for (int[] w : wrong) {
            Check.refused(x, "then(" + w[0] + ", " + w[1] + ")", () -> x.then(w[0], w[1]), BAD);
            Check.refused(x, "least(" + w[0] + ", " + w[1] + ")", () -> x.least(w[0], w[1]), BAD);
        }
        Check.refused(x, "when(2)", () -> x.when(2), BAD);
        Check.refused(x, "when(-1)", () -> x.when(-1), BAD);
        BolsterBeds none = new BolsterBeds();
        Check.refused(none, "then(0, 0)", () -> none.then(0, 0), BAD);
        Check.refused(none, "when(0)", () -> none.when(0), BAD);
        Check.refused(none, "least(0, 0)", () -> none.least(0, 0), BAD);
    }
}
