/** Promises 25 and 26: the best rounds, what a round brings. */
public final class RoundsTest {
    private static final int BAD = BolsterBeds.BAD, STATE = BolsterBeds.STATE, NONE = BolsterBeds.NONE;
    private static final int NOTHING = 1, UNLIKE = 3, SIZE = 5;

    public static void main(String[] args) {
        round();
        firstOfThose();
        roundIsAside();
        roundRefused();
        brings();
        bringsRefused();
        Check.end("RoundsTest");
    }

    private static void round() {
        BolsterBeds x = Check.town(Check.ALL_KINDS);
        Check.due("round(0, 3)", x.round(0, 3), 0);
        Check.rowIs(x, "round of none", 3);
        Check.due("round(1, 3)", x.round(1, 3), 6);
        Check.rowIs(x, "round of 1", 3, 2);
        Check.due("round(2, 3)", x.round(2, 3), 17);
        Check.rowIs(x, "round of 2", 3, 2, 1);
        Check.due("round(4, 5)", x.round(4, 5), 54);
        x.at(5, 3);
        Check.due("its last", x.asked(), 2);
        Check.due("it brings", x.brings(5), 54);
    }

    private static void firstOfThose() {
        BolsterBeds still = Check.town(Check.STILL);
        Check.due("nothing is found", still.round(4, 0), 0);
        Check.rowIs(still, "none first", 0, NONE, NONE, NONE, NONE);
        BolsterBeds alike = Check.town("n00003 b303 b303");
        Check.due("alike, but still", alike.round(1, 0), 0);
        Check.rowIs(alike, "alike, but still", 0, NONE);
        BolsterBeds twins = Check.town("n00001 b100 b100 b100");
        Check.due("1 and 2", twins.round(2, 0), 3);
        Check.rowIs(twins, "the first twins", 0, 0, 1);
        Check.due("1, 2, 3", twins.round(3, 0), 6);
        Check.rowIs(twins, "three twins", 0, 0, 1, 2);
        BolsterBeds late = Check.town("n00004 b100");
        Check.due("four lie at the end", late.round(4, 0), 4);
        Check.rowIs(late, "none ahead", 0, NONE, NONE, NONE, 0);
    }

    private static void roundIsAside() {
        BolsterBeds x = Check.town(Check.ALL_KINDS);
        x.row(1, 4);
        x.lay(1, 0, 5);
        long bed = x.count(4);
        int deeds = x.count(2);
        Check.due("round(3, 1)", x.round(3, 1) > 0 ? 1 : 0, 1);
        Check.due("nothing lies", x.count(4), bed);
        Check.due("no deed", x.count(2), deeds);
        Check.due("no fine", x.count(3), 0);
        Check.due("three places anew", x.at(1, 3), BolsterBeds.FINDING);
        BolsterBeds full = Check.town("n99991 b900 b800");
        for (int d = 0; d < 40; d++) {
            full.night();
        }
        Check.due("a round of a full town", full.round(1, 0), 99);
        Check.rowIs(full, "of a full town", 0, 0);
    }

    private static void roundRefused() {
        BolsterBeds x = Check.town(Check.ALL_KINDS);
        x.row(0, 1);
        int[][] wrong = {{-1, 0}, {5, 0}, {1, 6}, {1, -1}};
        BolsterBeds none = new BolsterBeds();
        for (int[] w : wrong) {
            Check.refused(x, "round(" + w[0] + ", " + w[1] + ")", () -> x.round(w[0], w[1]), BAD);
            Check.refused(none, "round(" + w[0] + ", " + w[1] + ")", () -> none.round(w[0], w[1]), BAD);
        }
        Check.refused(none, "round(1, 0)", () -> none.round(1, 0), STATE);
    }

    private static void brings() {
        BolsterBeds x = Check.town(Check.ALL_KINDS);
        Check.row(x, 3, NONE, 1, 1, NONE, 0, 5, 3);
        long digest = x.digest();
        Check.due("brings(3)", x.brings(3), 73);
        Check.due("fines", x.asked(), 4);
        Check.due("aside", x.digest(), digest);
        x.row(4, 0);
        Check.due("a round of none", x.brings(4), 0);
        Check.due("no fines", x.asked(), 0);
        BolsterBeds twin = Check.town("n00002 b100 b200");
        Check.row(twin, 0, 0, 1, 0);
        Check.due("0 misses, 4, 3", twin.brings(0), 7);
        Check.due("two fines", twin.asked(), 2);
        twin.night();
        twin.inspect(1);
        Check.due("one fine ahead", twin.count(3), 1);
        Check.row(twin, 0, 0);
        Check.due("of this round alone", twin.brings(0), 2);
        Check.due("one fine by it", twin.asked(), 1);
        Check.row(twin, 0, NONE, NONE, NONE, NONE, NONE, NONE, NONE, NONE, NONE, 0);
        Check.due("ten nights", twin.brings(0), 11);
    }

    private static void bringsRefused() {
        BolsterBeds x = Check.town("n00002 b100 b200");
        x.bed(1, 1);
        Check.refused(x, "brings(6)", () -> x.brings(6), BAD);
        Check.refused(x, "brings(-1)", () -> x.brings(-1), BAD);
        Check.refusedBy(x, "brings(0)", () -> x.brings(0), NOTHING);
        x.row(0, 11);
        Check.refusedBy(x, "11 nights", () -> x.brings(0), SIZE);
        x.lay(0, 0, 7);
        Check.refusedBy(x, "11 nights, no bed", () -> x.brings(0), SIZE);
        x.row(0, 2);
        for (int wrong : new int[] {2, -1, -8, -10, Integer.MAX_VALUE}) {
            x.lay(0, 1, wrong);
            Check.refusedBy(x, "no bed " + wrong, () -> x.brings(0), UNLIKE);
            x.lay(0, 1, 0);
            x.lay(0, 0, wrong);
            Check.refusedBy(x, "no bed first " + wrong, () -> x.brings(0), UNLIKE);
            x.lay(0, 0, 0);
        }
        BolsterBeds none = new BolsterBeds();
        Check.refused(none, "brings(6)", () -> none.brings(6), BAD);
        Check.refused(none, "brings(0)", () -> none.brings(0), STATE);
    }
}
