/** Promise 32: by turns of an upholsterer and an inspector. */
public final class TurnsTest {
    private static final int BAD = BolsterBeds.BAD, STATE = BolsterBeds.STATE;

    public static void main(String[] args) {
        duel();
        turnByTurn();
        duelAside();
        refused();
        Check.end("TurnsTest");
    }

    private static void duels(String text, int... due) {
        BolsterBeds x = Check.town(text);
        for (int n = 0; n < due.length; n++) {
            Check.due("duel(" + n + ") of " + text, x.duel(n), due[n]);
        }
    }

    private static void duel() {
        Check.promise(32, "By n (0 .. 4) turns in all,");
        duels(Check.STILL, 0, 0, 0, 0, 0);
        duels(Check.ALL_KINDS, 0, 0, 6, 6, 17);
        Check.promise(32, "the first, the third of an upholsterer, who THINS a BED (that is not 0 THICK), or none, "
            + "whereupon a NIGHT passes,");
        // Whichever was thinned, 3 have crossed then, and no more.
        duels("n00001 b300", 0, 0, 3, 3, 6);
        // Thinned it would be found out, and by 2 in two nights: so none is.
        duels("n00003 b202", 0, 0, 0, 0, 0);
        duels("n00001 b202 b202", 0, 0, 0, 0, 0);
        duels("n00009 b505", 0, 0, 0, 0, 0);
        Check.promise(32, "the second, the fourth of an inspector, who INSPECTS one, or none:");
        // One crosses in each of two beds, each night: the second inspection finds 2.
        duels("n00001 b100 b100", 0, 0, 1, 1, 3);
        duels("n00002 b100", 0, 0, 0, 0, 2);
        duels("n00002 b200 b200", 0, 0, 2, 2, 2 + 4);
        Check.promise(32, "how many FEATHERS are FOUND, the first wanting few, the inspector many.");
        // Of one bed 19 and 15, or, by waiting, 38; of two 19 at once, then 38 of the other one.
        duels("n99991 t900", 0, 0, 19, 19, 38);
        duels("n99991 t900 t900", 0, 0, 19, 19, 19 + 38);
        // At once the lesser one, so that the greater one is found by two nights: not 4 + 6.
        duels("n00001 b400 b300", 0, 0, 4, 4, 3 + 8);
    }

    private static void turnByTurn() {
        Check.promise(32, "By n (0 .. 4) turns in all,");
        BolsterBeds x = Check.after(40, "n99991 b900 b800");
        int[] due = {0, 0, 99, 99, 198};
        for (int n = 0; n <= 4; n++) {
            Check.due("duel(" + n + "), though there are 40 deeds", x.duel(n), due[n]);
        }
        // By the night that is due: cold 5 in night 1 alone.
        BolsterBeds y = Check.town("n05001 b000");
        Check.due("duel(2) in night 0", y.duel(2), 0);
        Check.due("duel(4) in night 0", y.duel(4), 5);
        y.night();
        Check.due("duel(2) in night 1", y.duel(2), 5);
        y.night();
        Check.due("duel(2) in night 2: what lies already", y.duel(2), 5);
    }

    private static void duelAside() {
        Check.promise(32, "By n (0 .. 4) turns in all,");
        BolsterBeds x = Check.town(Check.ALL_KINDS);
        x.bed(1, 1);
        long digest = x.digest();
        for (int n = 0; n <= 4; n++) {
            x.duel(n);
            Check.due("duel(" + n + ") is aside", x.digest(), digest);
        }
        Check.due("it tells nothing by asked()", x.asked(), 8);
        Check.due("nor by upper()", x.upper(), 0);
    }

    private static void refused() {
        BolsterBeds x = Check.town(Check.STILL);
        BolsterBeds none = new BolsterBeds();
        Check.promise(32, "BAD;");
        Check.refused(x, "duel(5)", () -> x.duel(5), BAD);
        Check.refused(x, "duel(-1)", () -> x.duel(-1), BAD);
        Check.refused(x, "duel(greatest)", () -> x.duel(Integer.MAX_VALUE), BAD);
        Check.refused(none, "BAD ahead of STATE", () -> none.duel(5), BAD);
        Check.promise(32, "STATE: no BEDS.");
        for (int n = 0; n <= 4; n++) {
            int turns = n;
            Check.refused(none, "duel(" + n + ")", () -> none.duel(turns), STATE);
        }
    }
}
