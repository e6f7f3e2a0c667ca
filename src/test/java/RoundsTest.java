/** Promises 25 and 26: the best rounds, what a round brings. */
public final class RoundsTest {
    private static final int BAD = BolsterBeds.BAD, STATE = BolsterBeds.STATE, NONE = BolsterBeds.NONE;
    private static final int NOTHING = 1, UNLIKE = 3, SIZE = 5;

    public static void main(String[] args) {
        round();
        roundAnew();
        firstOfThose();
        roundIsAside();
        roundRefused();
        brings();
        bringsByTheRound();
        bringsFines();
        bringsRefused();
        bringsInThisOrder();
        Check.end("RoundsTest");
    }

    private static void rounds(String text, int n, int found, int... first) {
        BolsterBeds x = Check.town(text);
        Check.due("round(" + n + ", 3) of " + text, x.round(n, 3), found);
        Check.rowIs(x, "round(" + n + ", 3) of " + text, 3, first);
        Check.due("it brings as many", x.brings(3), found);
    }

    private static void round() {
        Check.promise(25, "The most FEATHERS FOUND (those that LAY in BEDS FOUND OUT) by a ROUND of n (0 .. 4) NIGHTS;");
        rounds(Check.ALL_KINDS, 0, 0);
        rounds(Check.ALL_KINDS, 1, 6, 2);
        rounds(Check.ALL_KINDS, 2, 17, 2, 1);
        // The wall's 3 + 5, the straw's 4 + 7 + 5, the quilt's 6 + 9 + 6 + 9.
        rounds(Check.ALL_KINDS, 4, 54, NONE, 5, 1, 2);
        // All that lies is found, not only the thread; one less than the thread is not.
        rounds("n00003 b300 b700", 1, 7, 1);
        rounds("n00008 b300 b700", 1, 0, NONE);
        rounds("n99999 b900 b900 b900", 4, 36 + 54 + 72, NONE, 0, 1, 2);
        BolsterBeds x = Check.after(40, "n99991 b900 b800");
        Check.due("99 at most lie", x.round(2, 0), 198);
        Check.rowIs(x, "both", 0, 0, 1);
    }

    private static void roundAnew() {
        Check.promise(25, "comes to a ROW (anew).");
        BolsterBeds x = Check.town("n00001 b100 b100 b100");
        x.row(0, 40);
        Check.row(x, 5, 7, 7);
        Check.due("round(3, 0)", x.round(3, 0), 6);
        Check.rowIs(x, "a greater one", 0, 0, 1, 2);
        Check.due("round(4, 5)", x.round(4, 5), 9);
        Check.rowIs(x, "a smaller one", 5, NONE, 0, 1, 2);
        Check.due("round(2, 3)", x.round(2, 3), 3);
        Check.rowIs(x, "a missing one", 3, 0, 1);
        Check.due("round(0, 3)", x.round(0, 3), 0);
        Check.rowIs(x, "of no nights", 3);
        Check.due("it is there", x.count(8), 3);
        x.at(5, 3);
        x.round(1, 2);
        Check.due("it tells nothing by asked()", x.asked(), 2);
    }

    private static void firstOfThose() {
        Check.promise(25, "the first such ROUND");
        rounds("n00001 b100 b100 b100", 1, 1, 0);
        rounds("n00001 b100 b100 b100", 2, 3, 0, 1);
        rounds("n00001 b100 b100 b100", 3, 6, 0, 1, 2);
        rounds("n00001 b000 b100 b100", 2, 3, 1, 2);
        Check.promise(25, "ROUNDS go by none, then by numbers, NIGHT by NIGHT, the first ones first.");
        rounds(Check.STILL, 4, 0, NONE, NONE, NONE, NONE);
        rounds("n00003 b303 b303", 1, 0, NONE);
        rounds("n00004 b100", 4, 4, NONE, NONE, NONE, 0);
        // One crosses in night 0 alone: whenever it is found, it is one; none first.
        rounds("n10001 b000", 1, 1, 0);
        rounds("n10001 b000", 2, 1, NONE, 0);
        rounds("n10001 b000", 4, 1, NONE, NONE, NONE, 0);
        rounds("n10001 b000 b000", 3, 2, NONE, 0, 1);
        rounds("n10001 b000 b000 b000", 4, 3, NONE, 0, 1, 2);
        // 2 lie in the second one: the greater number, if more is found by it.
        rounds("n00001 b101 b200", 1, 2, 1);
        rounds("n00001 b101 b200", 2, 4, NONE, 1);
    }

    private static void roundIsAside() {
        Check.promise(25, "ROUND of n (0 .. 4) NIGHTS;");
        BolsterBeds x = Check.after(40, Check.ALL_KINDS);
        x.row(1, 3);
        int[] told = new int[11];
        for (int what = 0; what < told.length; what++) {
            told[what] = x.count(what);
        }
        Check.due("round(3, 1), though there are 40 deeds", x.round(3, 1), 297);
        for (int what = 0; what < told.length; what++) {
            Check.due("count(" + what + ") stays", x.count(what), told[what]);
        }
        for (int i = 0; i < 6; i++) {
            Check.bed(x, i, 7, 0);
        }
    }

    private static void roundRefused() {
        BolsterBeds x = Check.town(Check.ALL_KINDS);
        x.row(0, 1);
        BolsterBeds none = new BolsterBeds();
        Check.promise(25, "BAD;");
        int[][] wrong = {{-1, 0}, {5, 0}, {1, 6}, {1, -1}};
        for (int[] w : wrong) {
            Check.refused(x, "round(" + w[0] + ", " + w[1] + ")", () -> x.round(w[0], w[1]), BAD);
            Check.refused(none, "BAD ahead of STATE: round(" + w[0] + ", " + w[1] + ")",
                () -> none.round(w[0], w[1]), BAD);
        }
        Check.promise(25, "STATE: no BEDS.");
        Check.refused(none, "round(1, 0)", () -> none.round(1, 0), STATE);
        Check.refused(none, "round(0, 5)", () -> none.round(0, 5), STATE);
    }

    private static void brings(BolsterBeds x, int found, int fines, int... round) {
        Check.row(x, 4, round);
        long digest = x.digest();
        Check.due("brings(4) of " + round.length, x.brings(4), found);
        Check.due("its fines", x.asked(), fines);
        Check.due("it is aside", x.digest(), digest);
    }

    private static void brings() {
        Check.promise(26, "FEATHERS FOUND by a ROUND of a ROW (0 to 10 NIGHTS);");
        brings(Check.town(Check.ALL_KINDS), 73, 4, NONE, 1, 1, NONE, 0, 5, 3);
        BolsterBeds twin = Check.town("n00002 b100 b200");
        brings(twin, 0, 0);
        brings(twin, 2, 1, 1);
        brings(twin, 10, 1, NONE, NONE, NONE, NONE, NONE, NONE, NONE, NONE, NONE, 0);
        brings(twin, 10 + 2, 2, 1, 1, 1, NONE, NONE, NONE, NONE, NONE, NONE, 0);
        brings(Check.after(40, "n99991 b900 b800"), 99 + 99 + 9 + 10, 3, 1, 0, NONE, 0);
    }

    private static void bringsByTheRound() {
        Check.promise(26, "A ROUND of n NIGHTS is a BED for each, that is INSPECTED when the NIGHT has passed, or none (NONE);");
        // 1 lies when night 0 has passed: not found out; 2 when night 1 has, and then it is sealed, 9 thick.
        BolsterBeds x = Check.town("n00002 b100 b200");
        brings(x, 0, 0, NONE);
        brings(x, 0, 0, 0);
        brings(x, 2, 1, 0, 0);
        brings(x, 2, 1, NONE, 0);
        brings(x, 2, 1, NONE, 0, 0, 0);
        brings(x, 4 + 3, 2, 0, 1, 0);
        brings(x, 3, 1, NONE, NONE, 0);
    }

    private static void bringsFines() {
        Check.promise(26, "FINES by asked().");
        BolsterBeds x = Check.town("n00002 b100 b200 b009");
        x.night();
        x.inspect(1);
        Check.due("one fine ahead", x.count(3), 1);
        brings(x, 2, 1, 0);
        brings(x, 0, 0, 1);
        brings(x, 0, 0, 2);
        brings(x, 0, 0, NONE);
        Check.due("one fine still", x.count(3), 1);
    }

    private static void bringsRefused() {
        BolsterBeds x = Check.town("n00002 b100 b200");
        x.bed(1, 1);
        Check.promise(26, "SIZE: more than 10;");
        x.row(0, 10);
        Check.due("10 nights in bed 0", x.brings(0), 2);
        x.row(0, 11);
        Check.refusedBy(x, "11 nights", () -> x.brings(0), SIZE);
        x.row(0, 40);
        Check.refusedBy(x, "40 nights", () -> x.brings(0), SIZE);
        Check.promise(26, "UNLIKE: no BED, nor NONE.");
        int[] wrong = {2, 5, -1, -8, -10, Integer.MAX_VALUE};
        for (int v : wrong) {
            Check.row(x, 0, NONE, v);
            Check.refusedBy(x, "no bed: " + v, () -> x.brings(0), UNLIKE);
        }
        Check.row(x, 0, 2, NONE, 0);
        Check.refusedBy(x, "no bed at first", () -> x.brings(0), UNLIKE);
        Check.row(x, 0, 0, 1, 0, 1, 0, 1, 0, 1, 0, 6);
        Check.refusedBy(x, "no bed at last", () -> x.brings(0), UNLIKE);
    }

    private static void bringsInThisOrder() {
        BolsterBeds x = Check.town("n00002 b100 b200");
        BolsterBeds none = new BolsterBeds();
        Check.promise(26, "BAD;");
        Check.refused(x, "brings(6)", () -> x.brings(6), BAD);
        Check.refused(x, "brings(-1)", () -> x.brings(-1), BAD);
        Check.promise(26, "STATE: no BEDS;");
        Check.row(none, 1, NONE);
        Check.refused(none, "brings(1)", () -> none.brings(1), STATE);
        Check.promise(26, "NOTHING;");
        Check.refusedBy(x, "brings(0)", () -> x.brings(0), NOTHING);
        Check.promise(26, "(In this order.)");
        Check.refused(none, "BAD ahead of STATE", () -> none.brings(6), BAD);
        Check.refused(none, "STATE ahead of NOTHING", () -> none.brings(0), STATE);
        none.row(2, 11);
        Check.refused(none, "STATE ahead of SIZE", () -> none.brings(2), STATE);
        Check.row(none, 2, 9);
        Check.refused(none, "STATE ahead of UNLIKE", () -> none.brings(2), STATE);
        x.row(0, 11);
        x.lay(0, 0, 7);
        Check.refusedBy(x, "SIZE ahead of UNLIKE", () -> x.brings(0), SIZE);
    }
}
