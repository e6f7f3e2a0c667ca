/** Promises 33 to 35: chances, means, lots. */
public final class ChancesTest {
    private static final int BAD = BolsterBeds.BAD, FULL = BolsterBeds.FULL, STATE = BolsterBeds.STATE;

    public static void main(String[] args) {
        odds();
        oddsOfNone();
        oddsOfSix();
        mid();
        chancesRefused();
        lots();
        lotsByHand();
        lotsRefused();
        Check.end("ChancesTest");
    }

    /** 3, 5, 1 lie, the thread is 3. */
    private static BolsterBeds twoOpen() {
        BolsterBeds x = Check.town("n00003 b300 b500 b100");
        x.night();
        Check.due("two are open", x.count(5), 3);
        return x;
    }

    private static void odds() {
        BolsterBeds x = twoOpen();
        Check.chance(x, "odds(0, 5)", x.odds(0, 5), 1, 1);
        Check.chance(x, "odds(1, 6)", x.odds(1, 6), 3, 4);
        Check.chance(x, "odds(2, 6)", x.odds(2, 6), 1, 4);
        Check.chance(x, "odds(3, 6)", x.odds(3, 6), 0, 1);
        Check.chance(x, "odds(1, 4)", x.odds(1, 4), 5, 9);
        Check.chance(x, "odds(2, 5)", x.odds(2, 5), 25, 144);
        Check.chance(x, "odds(2, 12)", x.odds(2, 12), 1, 1);
        Check.chance(x, "odds(1, 0)", x.odds(1, 0), 0, 1);
        Check.chance(x, "odds(0, 0)", x.odds(0, 0), 1, 1);
        Check.due("no bed is inspected", x.count(3), 0);
        Check.due("asked() stays", x.asked(), 0);
    }

    private static void oddsOfNone() {
        BolsterBeds x = Check.town(Check.STILL);
        Check.chance(x, "odds(0, 7)", x.odds(0, 7), 1, 1);
        Check.chance(x, "odds(1, 7)", x.odds(1, 7), 0, 1);
        Check.chance(x, "mid(7)", x.mid(7), 0, 1);
    }

    private static void oddsOfSix() {
        BolsterBeds x = Check.town("n99991 b900 b900 b900 b900 b900 b900");
        for (int d = 0; d < 10; d++) {
            x.night();
        }
        Check.due("six are open", x.count(5), 63);
        Check.chance(x, "odds(6, 1)", x.odds(6, 1), 1, 2985984);
        Check.chance(x, "odds(1, 11)", x.odds(1, 11), 2985983, 2985984);
        Check.chance(x, "odds(6, 6)", x.odds(6, 6), 1, 64);
        Check.chance(x, "odds(3, 6)", x.odds(3, 6), 21, 32);
        Check.chance(x, "mid(6)", x.mid(6), 99 * 63, 64);
        Check.chance(x, "mid(11)", x.mid(11), 99L * 2985983 / 9, 2985984 / 9);
    }

    private static void mid() {
        BolsterBeds x = twoOpen();
        // 5 by a half, else 3 by a half.
        Check.chance(x, "mid(6)", x.mid(6), 13, 4);
        Check.chance(x, "mid(12)", x.mid(12), 5, 1);
        Check.chance(x, "mid(0)", x.mid(0), 0, 1);
        // 5 / 3 and 3 / 3 of 2 / 3.
        Check.chance(x, "mid(4)", x.mid(4), 7, 3);
        Check.due("no bed is inspected", x.count(3), 0);
    }

    private static void chancesRefused() {
        BolsterBeds x = twoOpen();
        x.odds(2, 6);
        BolsterBeds none = new BolsterBeds();
        int[][] wrong = {{-1, 0}, {7, 0}, {0, -1}, {0, 13}};
        for (int[] w : wrong) {
            Check.refused(x, "odds(" + w[0] + ", " + w[1] + ")", () -> x.odds(w[0], w[1]), BAD);
            Check.refused(none, "odds(" + w[0] + ", " + w[1] + ")", () -> none.odds(w[0], w[1]), BAD);
        }
        Check.refused(x, "mid(13)", () -> x.mid(13), BAD);
        Check.refused(x, "mid(-1)", () -> x.mid(-1), BAD);
        Check.refused(none, "mid(13)", () -> none.mid(13), BAD);
        Check.refused(none, "odds(0, 0)", () -> none.odds(0, 0), STATE);
        Check.refused(none, "mid(0)", () -> none.mid(0), STATE);
    }

    private static void lots() {
        BolsterBeds x = Check.town("n31406t185w296c770q819s354b628");
        x.night();
        x.night();
        x.inspect(0);
        x.inspect(3);
        x.swap(1, 4);
        x.swap(4, 0);
        x.night();
        Check.due("lots(12, 31337)", x.lots(12, 31337), 15);
        Check.due("deeds", x.count(2), 19);
        Check.due("undo(7)", x.undo(7), 12);
        Check.due("lots(20, 4711)", x.lots(20, 4711), 52);
        Check.due("fines", x.count(3), 5);
        Check.due("asked() stays", x.asked(), 0);
        Check.chance(x, "nor are chances told", 1, 0, 1);
    }

    /** The same deeds by hand, by the lots' numbers. */
    private static void lotsByHand() {
        for (int seed : new int[] {1, 2, 44488, 123456789, 2147483646}) {
            BolsterBeds x = Check.town("n31402 b504 w296 c770 b000 t628");
            BolsterBeds y = Check.town("n31402 b504 w296 c770 b000 t628");
            int found = 0;
            long lot = seed;
            int undoneStill = 0;
            for (int d = 0; d < 20; d++) {
                lot = lot * 48271 % 2147483647;
                int i = (int) (lot / 8 % 5);
                int what = (int) (lot % 4);
                if (what <= 1) {
                    y.night();
                } else if (what == 2) {
                    found += y.inspect(i);
                } else if (y.thin(i) == STATE) {
                    // A deed all the same: by an inspection of a bed that is still it is one, too.
                    undoneStill++;
                    Check.due("0 thick", y.bed(i, 3), 1);
                }
            }
            Check.due("lots(20, " + seed + ")", x.lots(20, seed), found);
            Check.due("20 deeds", x.count(2), 20);
            Check.due("the deeds by hand", y.count(2), 20 - undoneStill);
            for (int what : new int[] {1, 3, 4, 5}) {
                Check.due("count(" + what + ") by " + seed, x.count(what), y.count(what));
            }
            for (int i = 0; i < 5; i++) {
                for (int what = 0; what < 8; what++) {
                    y.bed(i, what);
                    Check.bed(x, i, what, y.asked());
                }
            }
        }
    }

    private static void lotsRefused() {
        BolsterBeds x = Check.town(Check.STILL);
        BolsterBeds none = new BolsterBeds();
        int[][] wrong = {{0, 1}, {21, 1}, {-1, 1}, {1, 0}, {1, -5}, {1, 2147483647}};
        for (int[] w : wrong) {
            Check.refused(x, "lots(" + w[0] + ", " + w[1] + ")", () -> x.lots(w[0], w[1]), BAD);
            Check.refused(none, "lots(" + w[0] + ", " + w[1] + ")", () -> none.lots(w[0], w[1]), BAD);
        }
        Check.refused(none, "lots(1, 1)", () -> none.lots(1, 1), STATE);
        x.lots(20, 9);
        x.night();
        Check.refused(x, "lots(20, 9) with 21", () -> x.lots(20, 9), FULL);
        Check.refused(x, "lots(21, 9) with 21", () -> x.lots(21, 9), BAD);
        Check.due("lots(19, 9)", x.lots(19, 9), 0);
        Check.due("40 deeds", x.count(2), 40);
        Check.refused(x, "lots(1, 9) with 40", () -> x.lots(1, 9), FULL);
    }
}
