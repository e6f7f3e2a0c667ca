/** Promises 27 and 28: who should be married to whom, who would rather have another one. */
public final class MarriagesTest {
    private static final int BAD = BolsterBeds.BAD, STATE = BolsterBeds.STATE, NONE = BolsterBeds.NONE;

    public static void main(String[] args) {
        marry();
        marryByNight();
        marryRefused();
        rather();
        ratherRefused();
        Check.end("MarriagesTest");
    }

    private static void marry() {
        BolsterBeds two = Check.town("n00001 b920 b180");
        Check.due("marry(0)", two.marry(0), 2);
        Check.rowIs(two, "changed", 0, 1, 0);
        Check.due("halves stay", two.count(2), 0);
        Check.bed(two, 0, 2, 2);
        BolsterBeds alike = Check.town("n00001 b550 b550 b550");
        alike.row(2, 9);
        Check.due("alike", alike.marry(2), 0);
        Check.rowIs(alike, "the first way", 2, 0, 1, 2);
        // Lefts 1, 5, 9 and rights 9, 1, 5: only one way is still.
        BolsterBeds turn = Check.town("n00001 b190 b510 b950");
        Check.due("all turn", turn.marry(5), 0);
        Check.rowIs(turn, "all turn", 5, 1, 2, 0);
        // The thick one takes the wide gap: 5 - 9 of it, 0 of the other.
        BolsterBeds thick = Check.town("n00001 b119 b660");
        Check.due("as it is", thick.marry(1), 0);
        Check.rowIs(thick, "as it is", 1, 0, 1);
        BolsterBeds bar = Check.town("n00001 b169 b110");
        Check.due("still", bar.marry(1), 0);
        Check.rowIs(bar, "still", 1, 0, 1);
        Check.due("one bed", Check.town("n90001 b120").marry(0), 10);
        BolsterBeds all = Check.town(Check.ALL_KINDS);
        Check.due("all kinds", all.marry(1), 6);
        all.at(1, 0);
        Check.due("the first has the first one's", all.asked(), 0);
        all.at(1, 5);
        Check.due("the last has the last one's", all.asked(), 5);
    }

    private static void marryByNight() {
        // In odd nights the clock takes whichever is far.
        BolsterBeds x = Check.town("n00001 c190 b110 b150");
        Check.due("night 0", x.marry(0), 12);
        Check.rowIs(x, "night 0", 0, 0, 1, 2);
        x.night();
        Check.due("night 1", x.marry(0), 4);
        Check.rowIs(x, "night 1", 0, 0, 1, 2);
        x.swap(0, 1);
        Check.due("swapped", x.marry(0), 4);
        Check.rowIs(x, "whose it is now", 0, 1, 0, 2);
    }

    private static void marryRefused() {
        BolsterBeds x = Check.town("n00001 b119 b660");
        Check.refused(x, "marry(6)", () -> x.marry(6), BAD);
        Check.refused(x, "marry(-1)", () -> x.marry(-1), BAD);
        BolsterBeds none = new BolsterBeds();
        Check.refused(none, "marry(6)", () -> none.marry(6), BAD);
        Check.refused(none, "marry(0)", () -> none.marry(0), STATE);
    }

    private static void rather(String text, int pairs, int first) {
        BolsterBeds x = Check.town(text);
        long digest = x.digest();
        Check.due("rather() of " + text, x.rather(), pairs);
        Check.due("the first of " + text, x.asked(), first);
        Check.due("rather() changes nothing", x.digest(), digest);
    }

    private static void rather() {
        rather("n00001 b920 b180", 1, 1);
        rather("n00001 b190", 0, NONE);
        // Equal is not less: 1 and 9 with rights 5 and 5.
        rather("n00001 b150 b950", 0, NONE);
        // Only one would: gaps 4 and 0; with the other one's 2 and 2.
        rather("n00001 b150 b330", 0, NONE);
        // One would, the other one's gap would be as great: 4 and 2; 2 and 6.
        rather("n00001 b420 b260", 0, NONE);
        rather("n00001 b260 b420", 0, NONE);
        rather("n00001 b550 b920 b180", 1, 12);
        rather("n00001 b190 b910 b180 b810", 4, 1);
        rather(Check.ALL_KINDS, 5, 2);
    }

    private static void ratherRefused() {
        BolsterBeds none = new BolsterBeds();
        Check.row(none, 0, 5);
        none.at(0, 0);
        Check.refused(none, "rather()", none::rather, STATE);
        Check.due("asked() stays", none.asked(), 5);
    }
}
