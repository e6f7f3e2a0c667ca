/** Promises 33 to 35: chances, means, lots. */
public final class ChancesTest {
    private static final int BAD = BolsterBeds.BAD, FULL = BolsterBeds.FULL, STATE = BolsterBeds.STATE;

    public static void main(String[] args) {
        odds();
        oddsInLowestTerms();
        oddsOfNone();
        oddsOfSix();
        oddsRefused();
        mid();
        midOfSix();
        midRefused();
        lots();
        lotsByTheirNumbers();
        lotsByHand();
        lotsRefused();
        lotsOfFull();
        Check.end("ChancesTest");
    }

    /** 3, 5, 1 lie, the thread is 3. */
    private static BolsterBeds twoOpen() {
        BolsterBeds x = Check.after(1, "n00003 b300 b500 b100");
        Check.due("two are open", x.count(5), 3);
        return x;
    }

    private static BolsterBeds sixOpen() {
        BolsterBeds x = Check.after(10, "n99991 b900 b900 b900 b900 b900 b900");
        Check.due("six are open", x.count(5), 63);
        return x;
    }

    private static void odds() {
        Check.promise(33, "Chances that v (0 .. 6) or more BEDS that would be FOUND OUT now are, if each of them is reported "
            + "(and INSPECTED) by p (0 .. 12) of 12, each by itself: 1.");
        BolsterBeds x = twoOpen();
        long digest = x.digest();
        Check.chance(x, "odds(0, 5)", x.odds(0, 5), 1, 1);
        Check.chance(x, "odds(1, 1)", x.odds(1, 1), 23, 144);
        Check.chance(x, "odds(2, 1)", x.odds(2, 1), 1, 144);
        Check.chance(x, "odds(1, 11)", x.odds(1, 11), 143, 144);
        Check.chance(x, "odds(2, 11)", x.odds(2, 11), 121, 144);
        Check.chance(x, "odds(2, 5)", x.odds(2, 5), 25, 144);
        Check.chance(x, "odds(2, 12)", x.odds(2, 12), 1, 1);
        Check.chance(x, "odds(1, 12)", x.odds(1, 12), 1, 1);
        Check.due("nothing is done", x.digest(), digest);
        Check.due("it tells nothing by asked()", x.asked(), 0);
        x.inspect(1);
        Check.chance(x, "odds(1, 5), one being found out", x.odds(1, 5), 5, 12);
        Check.chance(x, "odds(2, 5), one being found out", x.odds(2, 5), 0, 1);
    }

    private static void oddsInLowestTerms() {
        Check.promise(33, "Chances, means are told by upper(), lower(), in lowest terms, the lower number above 0 (0 by 1).");
        BolsterBeds x = twoOpen();
        Check.chance(x, "odds(1, 6)", x.odds(1, 6), 3, 4);
        Check.chance(x, "odds(2, 6)", x.odds(2, 6), 1, 4);
        Check.chance(x, "odds(1, 4)", x.odds(1, 4), 5, 9);
        Check.chance(x, "odds(2, 8)", x.odds(2, 8), 4, 9);
        Check.chance(x, "odds(2, 10)", x.odds(2, 10), 25, 36);
        Check.chance(x, "odds(3, 6)", x.odds(3, 6), 0, 1);
        Check.chance(x, "odds(6, 12)", x.odds(6, 12), 0, 1);
        Check.chance(x, "odds(1, 0)", x.odds(1, 0), 0, 1);
        Check.chance(x, "odds(0, 0)", x.odds(0, 0), 1, 1);
        Check.chance(x, "odds(0, 12)", x.odds(0, 12), 1, 1);
    }

    private static void oddsOfNone() {
        Check.promise(33, "BEDS that would be FOUND OUT now");
        BolsterBeds x = Check.town(Check.STILL);
        Check.chance(x, "odds(0, 7)", x.odds(0, 7), 1, 1);
        Check.chance(x, "odds(1, 7)", x.odds(1, 7), 0, 1);
        Check.chance(x, "odds(1, 12)", x.odds(1, 12), 0, 1);
        Check.chance(x, "mid(7)", x.mid(7), 0, 1);
    }

    private static void oddsOfSix() {
        Check.promise(33, "v (0 .. 6) or more");
        BolsterBeds x = sixOpen();
        Check.chance(x, "odds(6, 1)", x.odds(6, 1), 1, 2985984);
        Check.chance(x, "odds(1, 11)", x.odds(1, 11), 2985983, 2985984);
        Check.chance(x, "odds(6, 12)", x.odds(6, 12), 1, 1);
        int[][] halves = {{1, 1}, {63, 64}, {57, 64}, {21, 32}, {11, 32}, {7, 64}, {1, 64}};
        for (int v = 0; v <= 6; v++) {
            Check.chance(x, "odds(" + v + ", 6)", x.odds(v, 6), halves[v][0], halves[v][1]);
        }
    }

    private static void oddsRefused() {
        BolsterBeds x = twoOpen();
        x.odds(2, 6);
        BolsterBeds none = new BolsterBeds();
        Check.promise(33, "BAD;");
        int[][] wrong = {{-1, 0}, {7, 0}, {0, -1}, {0, 13}};
        for (int[] w : wrong) {
            Check.refused(x, "odds(" + w[0] + ", " + w[1] + ")", () -> x.odds(w[0], w[1]), BAD);
            Check.refused(none, "BAD ahead of STATE: odds(" + w[0] + ", " + w[1] + ")",
                () -> none.odds(w[0], w[1]), BAD);
        }
        Check.promise(33, "STATE: no BEDS.");
        Check.refused(none, "odds(0, 0)", () -> none.odds(0, 0), STATE);
        Check.refused(none, "odds(6, 12)", () -> none.odds(6, 12), STATE);
    }

    private static void mid() {
        Check.promise(34, "The mean of the most FEATHERS found in one of them so (0: none reported): 1.");
        BolsterBeds x = twoOpen();
        long digest = x.digest();
        // 5 by a half, else 3 by a half.
        Check.chance(x, "mid(6)", x.mid(6), 13, 4);
        Check.chance(x, "mid(12)", x.mid(12), 5, 1);
        Check.chance(x, "mid(0)", x.mid(0), 0, 1);
        // 5 by 1 / 3, 3 by 1 / 3 of 2 / 3; 5 by 1 / 12, 3 by 1 / 12 of 11 / 12.
        Check.chance(x, "mid(4)", x.mid(4), 7, 3);
        Check.chance(x, "mid(1)", x.mid(1), 31, 48);
        Check.due("nothing is done", x.digest(), digest);
        Check.due("it tells nothing by asked()", x.asked(), 0);
        x.inspect(1);
        Check.chance(x, "mid(6), the greater one being found out", x.mid(6), 3, 2);
        x.inspect(0);
        Check.chance(x, "mid(6) of none", x.mid(6), 0, 1);
    }

    private static void midOfSix() {
        Check.promise(34, "the most FEATHERS found in one of them");
        BolsterBeds x = sixOpen();
        Check.chance(x, "mid(6)", x.mid(6), 99 * 63, 64);
        Check.chance(x, "mid(11)", x.mid(11), 99L * 2985983 / 9, 2985984 / 9);
        Check.chance(x, "mid(12)", x.mid(12), 99, 1);
        BolsterBeds y = Check.after(1, "n00001 b600 b500 b400 b300 b200 b100");
        // 6 by a half, 5 by a fourth, ..
        Check.chance(y, "mid(6) of 6, 5, ..", y.mid(6), 6 * 32 + 5 * 16 + 4 * 8 + 3 * 4 + 2 * 2 + 1, 64);
    }

    private static void midRefused() {
        BolsterBeds x = twoOpen();
        x.mid(6);
        BolsterBeds none = new BolsterBeds();
        Check.promise(34, "BAD;");
        Check.refused(x, "mid(13)", () -> x.mid(13), BAD);
        Check.refused(x, "mid(-1)", () -> x.mid(-1), BAD);
        Check.refused(none, "BAD ahead of STATE", () -> none.mid(13), BAD);
        Check.promise(34, "STATE: no BEDS.");
        Check.refused(none, "mid(0)", () -> none.mid(0), STATE);
        Check.refused(none, "mid(12)", () -> none.mid(12), STATE);
    }

    private static void lots() {
        Check.promise(35, "n (1 .. 20) DEEDS truly by LOTS of a seed:");
        BolsterBeds x = Check.town("n31406t185w296c770q819s354b628");
        x.night();
        x.night();
        x.inspect(0);
        x.inspect(3);
        x.swap(1, 4);
        x.swap(4, 0);
        x.night();
        long digest = x.digest();
        Check.due("lots(12, 31337)", x.lots(12, 31337), 15);
        Check.due("19 deeds", x.count(2), 19);
        Check.due("undo(7)", x.undo(7), 12);
        Check.due("all are undone", x.digest(), digest);
        Check.due("lots(20, 4711)", x.lots(20, 4711), 52);
        Check.due("27 deeds", x.count(2), 27);
        Check.due("fines", x.count(3), 5);
        x.keep(1);
        digest = x.digest();
        x.undo(0);
        x.on(1);
        Check.due("they are kept, too", x.digest(), digest);
        Check.due("it tells nothing by asked()", x.asked(), 0);
        Check.chance(x, "nor by upper()", 1, 0, 1);
    }

    /** What a first lot does: its number is 48271 times the seed, modulo 2147483647. */
    private static void firstLot(int seed, int nights, int found, int thick0, int thick1) {
        BolsterBeds x = Check.town("n00002 b300 b205");
        x.night();
        Check.due("lots(1, " + seed + ")", x.lots(1, seed), found);
        Check.due("two deeds by " + seed, x.count(2), 2);
        Check.due("nights by " + seed, x.count(1), nights);
        Check.bed(x, 0, 3, thick0);
        Check.bed(x, 1, 3, thick1);
    }

    private static void lotsByTheirNumbers() {
        Check.promise(35, "a number comes from the one ahead by 48271 times it modulo 2147483647, the first from the seed "
            + "(1 .. 2147483646):");
        // 48271 = 8 6033 + 7: 3 by 4, bed 1 of two is thinned.
        firstLot(1, 1, 0, 0, 4);
        // 96542 = 8 12067 + 6: 2 by 4, bed 1 is inspected, and still.
        firstLot(2, 1, 0, 0, 5);
        // 2147483646 48271 is 48271 less than a multiple: 2147435376, 0 by 4.
        firstLot(2147483646, 2, 0, 0, 5);
        Check.promise(35, "it modulo 4: 0, 1 a NIGHT, 2 the BED that it by 8, cut, modulo how many there are is INSPECTED, "
            + "3 THINNED");
        // 144813 = 8 18101 + 5: 1 by 4.
        firstLot(3, 2, 0, 0, 5);
        // 193084 = 8 24135 + 4: 0 by 4.
        firstLot(4, 2, 0, 0, 5);
        // 289626 = 8 36203 + 2: bed 1 is still; 482710 = 8 60338 + 6: bed 0 is found out.
        firstLot(6, 1, 0, 0, 5);
        firstLot(10, 1, 3, 9, 5);
        Check.promise(35, "(a DEED, also if it is 0 THICK):");
        // 241355 = 8 30169 + 3: bed 1; 434439 = 8 54304 + 7: bed 0.
        firstLot(5, 1, 0, 0, 4);
        firstLot(9, 1, 0, 0, 5);
    }

    /** The same deeds by hand, by the lots' numbers. */
    private static void lotsByHand() {
        Check.promise(35, "FEATHERS FOUND in these.");
        for (int seed : new int[] {1, 2, 44488, 123456789, 2147483646}) {
            BolsterBeds x = Check.town("n31402 b504 w296 c770 b000 t628");
            BolsterBeds y = Check.town("n31402 b504 w296 c770 b000 t628");
            int found = 0;
            long lot = seed;
            int still = 0;
            for (int d = 0; d < 20; d++) {
                lot = lot * 48271 % 2147483647;
                int i = (int) (lot / 8 % 5);
                int what = (int) (lot % 4);
                if (what <= 1) {
                    y.night();
                } else if (what == 2) {
                    found += y.inspect(i);
                } else if (y.thin(i) == STATE) {
                    still++;
                }
            }
            Check.due("lots(20, " + seed + ")", x.lots(20, seed), found);
            Check.due("20 deeds", x.count(2), 20);
            Check.due("the deeds by hand", y.count(2), 20 - still);
            for (int what : new int[] {1, 3, 4, 5}) {
                Check.due("count(" + what + ") by " + seed, x.count(what), y.count(what));
            }
            for (int i = 0; i < 5; i++) {
                for (int what = 0; what < 8; what++) {
                    y.bed(i, what);
                    Check.bed(x, i, what, y.asked());
                }
            }
        }
    }

    private static void lotsRefused() {
        BolsterBeds x = Check.town(Check.STILL);
        BolsterBeds none = new BolsterBeds();
        Check.promise(35, "BAD;");
        int[][] wrong = {{0, 1}, {21, 1}, {-1, 1}, {1, 0}, {1, -1}, {1, 2147483647}, {1, Integer.MIN_VALUE}};
        for (int[] w : wrong) {
            Check.refused(x, "lots(" + w[0] + ", " + w[1] + ")", () -> x.lots(w[0], w[1]), BAD);
            Check.refused(none, "BAD ahead of STATE: lots(" + w[0] + ", " + w[1] + ")",
                () -> none.lots(w[0], w[1]), BAD);
        }
        Check.promise(35, "STATE: no BEDS;");
        Check.refused(none, "lots(1, 1)", () -> none.lots(1, 1), STATE);
        Check.refused(none, "lots(20, 2147483646)", () -> none.lots(20, 2147483646), STATE);
    }

    private static void lotsOfFull() {
        BolsterBeds x = Check.town(Check.STILL);
        Check.promise(35, "FULL: with n more there would be more than 40 DEEDS. (FULL last.)");
        Check.due("lots(20, 9)", x.lots(20, 9), 0);
        x.night();
        Check.refused(x, "20 with 21", () -> x.lots(20, 9), FULL);
        Check.refused(x, "BAD ahead of FULL", () -> x.lots(21, 9), BAD);
        Check.refused(x, "BAD ahead of FULL, too", () -> x.lots(20, 0), BAD);
        Check.due("19 with 21", x.lots(19, 9), 0);
        Check.due("40 deeds", x.count(2), 40);
        Check.refused(x, "1 with 40", () -> x.lots(1, 9), FULL);
        x.undo(39);
        Check.refused(x, "2 with 39", () -> x.lots(2, 9), FULL);
        Check.due("1 with 39", x.lots(1, 9), 0);
    }
}
