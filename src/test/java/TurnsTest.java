/** Promise 32: by turns of an upholsterer and an inspector. */
public final class TurnsTest {
    private static final int BAD = BolsterBeds.BAD, STATE = BolsterBeds.STATE;

    public static void main(String[] args) {
        duel();
        thinningPays();
        refused();
        Check.end("TurnsTest");
    }

    private static void duels(String text, int... due) {
        BolsterBeds x = Check.town(text);
        long digest = x.digest();
        for (int n = 0; n < due.length; n++) {
            Check.due("duel(" + n + ") of " + text, x.duel(n), due[n]);
        }
        Check.due("duel() is aside", x.digest(), digest);
        Check.due("duel() tells nothing by asked()", x.asked(), 0);
    }

    private static void duel() {
        duels(Check.STILL, 0, 0, 0, 0, 0);
        duels(Check.ALL_KINDS, 0, 0, 6, 6, 17);
        // One crosses in each of two beds, each night: the second inspection finds 2.
        duels("n00001 b100 b100", 0, 0, 1, 1, 3);
        // A thread of 2: waiting is as good as not.
        duels("n00002 b100", 0, 0, 0, 0, 2);
        // Found at once it is sealed, 9 thick, and still: 3 + 0; later 3 + 3 at once.
        duels("n00001 b300", 0, 0, 3, 3, 6);
    }

    private static void thinningPays() {
        BolsterBeds x = Check.town("n99991 b900 b800");
        for (int d = 0; d < 40; d++) {
            x.night();
        }
        Check.due("a full town", x.duel(2), 99);
        Check.due("a full town, both", x.duel(4), 198);
    }

    private static void refused() {
        BolsterBeds x = Check.town(Check.STILL);
        Check.refused(x, "duel(5)", () -> x.duel(5), BAD);
        Check.refused(x, "duel(-1)", () -> x.duel(-1), BAD);
        BolsterBeds none = new BolsterBeds();
        Check.refused(none, "duel(5)", () -> none.duel(5), BAD);
        Check.refused(none, "duel(0)", () -> none.duel(0), STATE);
    }
}
