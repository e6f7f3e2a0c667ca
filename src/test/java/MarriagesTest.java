/** Promises 27 and 28: who should be married to whom, who would rather have another one. */
public final class MarriagesTest {
    private static final int BAD = BolsterBeds.BAD, STATE = BolsterBeds.STATE, NONE = BolsterBeds.NONE;

    public static void main(String[] args) {
        marry();
        firstWay();
        marryAnew();
        marryByNight();
        halvesAndThicks();
        marryRefused();
        rather();
        firstPair();
        ratherRefused();
        Check.end("MarriagesTest");
    }

    private static void marries(String text, int fewest, int... whose) {
        BolsterBeds x = Check.town(text);
        Check.due("marry(4) of " + text, x.marry(4), fewest);
        Check.rowIs(x, "marry(4) of " + text, 4, whose);
    }

    private static void marry() {
        Check.promise(27, "The fewest FEATHERS that CROSS in all in the NIGHT that is due, if RIGHT halves are given anew, "
            + "one to each BED;");
        marries("n00001 b920 b180", 2, 1, 0);
        marries("n90001 b120", 10, 0);
        marries(Check.STILL, 0, 0);
        // Lefts 1, 5, 9 and rights 9, 1, 5: only one way is still.
        marries("n00001 b190 b510 b950", 0, 1, 2, 0);
        // The thick one takes the wide gap.
        marries("n00001 b090 b009", 0, 1, 0);
        marries("n00001 b009 b090", 0, 1, 0);
        // Each half goes to one bed alone: 5 can't be had twice.
        marries("n00001 b550 b590", 4, 0, 1);
        marries("n00001 b590 b550", 4, 0, 1);
        // A straw bears 2 more, a quilt half: the wide gap goes to the straw.
        marries("n00001 s024 q004", 0, 0, 1);
        marries("n00001 q024 s004", 0, 0, 1);
        marries("n00001 q034 s004", 0, 1, 0);
        Check.due("of six", Check.town(Check.ALL_KINDS).marry(0), 6);
    }

    private static void firstWay() {
        Check.promise(27, "whose (the BED where it is now) has each BED in the first such way (rising) comes to a ROW");
        marries("n00001 b550 b550 b550", 0, 0, 1, 2);
        marries("n00001 b550 b550 b550 b550 b550 b550", 0, 0, 1, 2, 3, 4, 5);
        marries(Check.ALL_KINDS, 6, 0, 4, 1, 2, 3, 5);
        // By either way 1 and 2 cross.
        marries("n00001 b540 b570", 3, 0, 1);
        marries("n00001 b570 b540", 3, 0, 1);
        // Whichever half of those alike the first one has, 8 cross in one of the others.
        marries("n00001 b910 b190 b190", 8, 1, 0, 2);
        marries("n00001 b190 b910 b910", 8, 1, 0, 2);
        BolsterBeds x = Check.town("n00001 b190 b910");
        x.marry(0);
        Check.rowIs(x, "changed", 0, 1, 0);
        x.swap(0, 1);
        x.marry(0);
        Check.rowIs(x, "where it is now", 0, 0, 1);
    }

    private static void marryAnew() {
        Check.promise(27, "(anew).");
        BolsterBeds x = Check.town("n00001 b920 b180");
        x.row(0, 40);
        x.marry(0);
        Check.rowIs(x, "a greater one", 0, 1, 0);
        Check.row(x, 5, 9);
        x.marry(5);
        Check.rowIs(x, "a smaller one", 5, 1, 0);
        x.marry(2);
        Check.rowIs(x, "a missing one", 2, 1, 0);
        Check.due("three are there", x.count(8), 3);
        x.bed(0, 1);
        x.marry(2);
        Check.due("it tells nothing by asked()", x.asked(), 9);
    }

    private static void marryByNight() {
        Check.promise(27, "in the NIGHT that is due");
        // In odd nights the clock takes whichever is far.
        BolsterBeds x = Check.town("n00001 c190 b110 b150");
        Check.due("night 0", x.marry(0), 12);
        Check.rowIs(x, "night 0", 0, 0, 1, 2);
        x.night();
        Check.due("night 1", x.marry(0), 4);
        Check.rowIs(x, "night 1", 0, 0, 1, 2);
        x.swap(0, 1);
        Check.due("swapped", x.marry(0), 4);
        Check.rowIs(x, "whose it is now", 0, 1, 0, 2);
        BolsterBeds cold = Check.town("n05001 b000 b000");
        Check.due("no cold", cold.marry(0), 0);
        cold.night();
        Check.due("cold 5", cold.marry(0), 10);
    }

    private static void halvesAndThicks() {
        Check.promise(27, "marriages (LEFT halves stay in their BEDS, THICK as now; RIGHT halves go anywhere)");
        BolsterBeds x = Check.town("n00001 b909 b099");
        long digest = x.digest();
        Check.due("9 thick", x.marry(0), 0);
        x.tear(0);
        Check.due("nothing is done by it", x.digest(), digest);
        x.thin(0);
        x.thin(1);
        x.thin(1);
        Check.due("8 and 7 thick: as rights go back", x.marry(0), 0);
        Check.rowIs(x, "as rights go back", 0, 1, 0);
        BolsterBeds y = Check.town("n00001 b908 b007");
        Check.due("8 thick", y.marry(0), 1);
        Check.rowIs(y, "8 thick", 0, 0, 1);
        y.thin(0);
        y.thin(0);
        Check.due("6 thick", y.marry(0), 3);
        Check.rowIs(y, "6 thick", 0, 0, 1);
        for (int d = 3; d < 41; d++) {
            y.night();
        }
        Check.due("40 deeds", y.count(2), 40);
        Check.due("worn thin, though there are 40 deeds", y.marry(0), 9);
    }

    private static void marryRefused() {
        BolsterBeds x = Check.town("n00001 b119 b660");
        BolsterBeds none = new BolsterBeds();
        Check.promise(27, "BAD;");
        Check.refused(x, "marry(6)", () -> x.marry(6), BAD);
        Check.refused(x, "marry(-1)", () -> x.marry(-1), BAD);
        Check.refused(none, "BAD ahead of STATE", () -> none.marry(6), BAD);
        Check.promise(27, "STATE: no BEDS.");
        Check.refused(none, "marry(0)", () -> none.marry(0), STATE);
        Check.refused(none, "marry(5)", () -> none.marry(5), STATE);
    }

    private static void rather(String text, int pairs, int first) {
        BolsterBeds x = Check.town(text);
        long digest = x.digest();
        Check.due("rather() of " + text, x.rather(), pairs);
        Check.due("the first of " + text, x.asked(), first);
        Check.due("rather() changes nothing", x.digest(), digest);
    }

    private static void rather() {
        Check.promise(28, "How many pairs of BEDS (the lesser number first) there are of which both would have a lesser GAP "
            + "with the other one's RIGHT half;");
        rather("n00001 b920 b180", 1, 1);
        rather("n00001 b190", 0, NONE);
        // Equal is not less: 1 and 9 with rights 5 and 5.
        rather("n00001 b150 b950", 0, NONE);
        // Only one would: gaps 4 and 0; with the other one's 2 and 2.
        rather("n00001 b150 b330", 0, NONE);
        rather("n00001 b330 b150", 0, NONE);
        // One would, the other one's gap would be as great: 5 and 3 as now, 1 and 3 then.
        rather("n00001 b160 b300", 0, NONE);
        rather("n00001 b300 b160", 0, NONE);
        rather("n00001 b160 b730", 1, 1);
        rather("n00001 b190 b910 b180 b810", 4, 1);
        rather(Check.ALL_KINDS, 5, 2);
        // Kinds, thicks and colds are nothing to it.
        rather("n99991 w929 c189", 1, 1);
    }

    private static void firstPair() {
        Check.promise(28, "the first by asked() (10 times the lesser number and the other one; NONE).");
        rather("n00001 b550 b920 b180", 1, 12);
        rather("n00001 b920 b550 b180", 1, 2);
        rather("n00001 b550 b550 b550 b550 b920 b180", 1, 45);
        rather("n00001 b920 b550 b550 b550 b550 b180", 1, 5);
        rather("n00001 b190 b190 b910 b910", 4, 2);
        rather("n00001 b550 b910 b190 b190", 2, 12);
        BolsterBeds x = Check.town("n00001 b920 b180");
        x.rather();
        Check.due("1: the pair of 0 and 1", x.asked(), 1);
        x.swap(0, 1);
        Check.due("none would", x.rather(), 0);
        Check.due("NONE by asked()", x.asked(), NONE);
        BolsterBeds y = Check.town("n00001 b980 b120 b550");
        Check.due("none would at first", y.rather(), 0);
        y.swap(0, 1);
        Check.due("two would now", y.rather(), 1);
        Check.due("1: the pair of 0 and 1 now", y.asked(), 1);
        BolsterBeds fewer = Check.town("n00001 b550 b920 b180");
        Check.due("a pair of three beds", fewer.rather(), 1);
        Check.write(fewer, 0, "n00001 b550 b920");
        Check.due("the third bed goes", fewer.town(0), 2);
        Check.due("no pair of the two that are left", fewer.rather(), 0);
    }

    private static void ratherRefused() {
        Check.promise(28, "STATE: no BEDS.");
        BolsterBeds none = new BolsterBeds();
        Check.row(none, 0, 5);
        none.at(0, 0);
        Check.refused(none, "rather()", none::rather, STATE);
        Check.due("asked() stays", none.asked(), 5);
    }
}
