/** Promises 10 to 14: faults, towns, beds, marks, what would cross. */
public final class TownsTest {
    private static final int BAD = BolsterBeds.BAD, STATE = BolsterBeds.STATE, NONE = BolsterBeds.NONE;
    private static final int NOTHING = 1, UNLIKE = 3;

    public static void main(String[] args) {
        blanks();
        firstItem();
        beds();
        faultsAtTheirPlaces();
        faultsAtTheEnd();
        faultsByBytes();
        faultRefused();
        town();
        townAnew();
        townRefused();
        kindsAndLetters();
        bed();
        bars();
        markOfEachKind();
        markByNight();
        markByHalvesAsNow();
        markRefused();
        crossByNights();
        crossByKinds();
        crossRefused();
        Check.end("TownsTest");
    }

    private static void fault(String text, int want) {
        BolsterBeds x = new BolsterBeds();
        Check.write(x, 2, text);
        long digest = x.digest();
        Check.due("fault of \"" + text + "\"", x.fault(2), want);
        Check.due("nothing changes by it", x.digest(), digest);
        Check.due("town of \"" + text + "\"", x.town(2) > 0 ? 1 : 0, want == NONE ? 1 : 0);
    }

    private static void blanks() {
        Check.promise(10, "A TOWN (without BEDS at first) is a TEXT: blanks (32) ahead, between, behind as many as wanted, "
            + "none within items.");
        fault("n12345b000", NONE);
        fault("   n12345b000", NONE);
        fault("n12345   b000", NONE);
        fault("n12345b000   s111", NONE);
        fault("n12345b000s111", NONE);
        fault("n12345b000   ", NONE);
        fault("  n00009  b999s000 q111 ", NONE);
        fault("n 2345b000", 1);
        fault("n1234 5b000", 5);
        fault("n12345b 000", 7);
        fault("n12345b1 2", 8);
        fault("n12345b12 3", 9);
        fault("n12345b123 4", 11);
    }

    private static void firstItem() {
        Check.promise(10, "The first item is n (110), the COLD of four NIGHTS (four figures 0 .. 9), the THREAD "
            + "(1 .. 9, one figure).");
        fault("n12341b000", NONE);
        fault("n12349b000", NONE);
        fault("n00001b000", NONE);
        fault("n99991b000", NONE);
        fault("n12340b000", 5);
        fault("n1234/b000", 5);
        fault("n1234:b000", 5);
        fault("n/2345b000", 1);
        fault("n:2345b000", 1);
        fault("n123:5b000", 4);
        fault("n12b000", 3);
        fault("n1234b000", 5);
        fault("n123456b000", 6);
        fault("12345b000", 0);
        fault("b000n12345", 0);
        fault("N12345b000", 0);
        fault("m12345b000", 0);
        fault("n12345n12345", 6);
    }

    private static void beds() {
        Check.promise(10, "Then BEDS (1 to 6; 0, 1, .. as they come): a letter, how WARM the LEFT half is, the RIGHT half, "
            + "how THICK the bolster (0 .. 9), one figure each.");
        fault("n12345b123s123q123c123t123w123", NONE);
        fault("n12345b123s123q123c123t123w123 ", NONE);
        fault("n12345b000b000b000b000b000b000", NONE);
        fault("n12345b999", NONE);
        fault("n12345b1234", 10);
        fault("n12345bs000", 7);
        fault("n12345b1s000", 8);
        fault("n12345b12s000", 9);
        fault("n12345b/00", 7);
        fault("n12345b:00", 7);
        fault("n12345b0/0", 8);
        fault("n12345b0:0", 8);
        fault("n12345b00/", 9);
        fault("n12345b00:", 9);
    }

    private static void faultsAtTheirPlaces() {
        Check.promise(10, "A FAULT is the first place at which it can't go on so (a letter, a figure that is none such, "
            + "a seventh BED: its place;");
        fault("m", 0);
        fault("  N", 2);
        fault("n12345x000", 6);
        fault("n12345 x000", 7);
        fault("n12345B000", 6);
        fault("n12345b000n000", 10);
        fault("n12345b12x", 9);
        fault("n1x2y3", 2);
        for (char letter = 'a'; letter <= 'z'; letter++) {
            fault("n12345" + letter + "000", "bsqctw".indexOf(letter) >= 0 ? NONE : 6);
        }
        fault("n12345b123s123q123c123t123w123b123", 30);
        fault("n12345b123s123q123c123t123w123b", 30);
        fault("n12345b123s123q123c123t123w123  b", 32);
        fault("n12345b123s123q123c123t123w123  x", 32);
        fault("n12345b123s123q123c123t123w12x", 29);
    }

    private static void faultsAtTheEnd() {
        Check.promise(10, "the TEXT's size, if its end comes too early");
        fault("n", 1);
        fault("n1", 2);
        fault("n12", 3);
        fault("n123", 4);
        fault("n1234", 5);
        fault("n12345b", 7);
        fault("n12345b1", 8);
        fault("n12345b12", 9);
        fault("n12345b000s1", 12);
        fault("n12345b123s123q123c123t123w12", 29);
        Check.promise(10, "or there is no BED");
        fault("n12345", 6);
        fault("n12345   ", 9);
        fault("  n12345 ", 9);
        Check.promise(10, "or there are blanks alone).");
        fault("", 0);
        fault(" ", 1);
        fault("    ", 4);
        fault(" ".repeat(60), 60);
        fault("n12345" + " ".repeat(54), 60);
        fault("n12345" + " ".repeat(50) + "b00", 59);
        fault("n12345" + " ".repeat(50) + "b000", NONE);
        fault("n12345" + " ".repeat(51) + "b00", 60);
    }

    private static void faultsByBytes() {
        Check.promise(10, "A FAULT of a TEXT; NONE: there is none.");
        BolsterBeds x = new BolsterBeds();
        Check.write(x, 0, "n12345b000");
        x.put(0, 6, 98 + 256);
        Check.due("a letter cut to a byte", x.fault(0), NONE);
        x.put(0, 9, 57 - 256);
        Check.due("a figure cut to a byte", x.fault(0), NONE);
        x.put(0, 9, -1);
        Check.due("a byte below 0", x.fault(0), 9);
        x.put(0, 9, 9);
        Check.due("a tab is no blank", x.fault(0), 9);
        x.put(0, 9, 160);
        Check.due("nor is another one", x.fault(0), 9);
        x.put(0, 6, 0);
        Check.due("a zero byte is no letter", x.fault(0), 6);
        x.put(0, 0, 0);
        Check.due("nor an n", x.fault(0), 0);
        Check.write(x, 3, "n12345");
        Check.due("another text", x.fault(3), 6);
        Check.due("it tells nothing by asked()", x.asked(), 0);
    }

    private static void faultRefused() {
        BolsterBeds x = new BolsterBeds();
        x.text(0, 5);
        Check.promise(10, "BAD; NOTHING.");
        Check.refused(x, "fault(-1)", () -> x.fault(-1), BAD);
        Check.refused(x, "fault(4)", () -> x.fault(4), BAD);
        Check.refusedBy(x, "fault(3)", () -> x.fault(3), NOTHING);
        Check.refusedBy(x, "fault(1)", () -> x.fault(1), NOTHING);
    }

    private static void town() {
        Check.promise(11, "how many BEDS.");
        for (int beds = 1; beds <= 6; beds++) {
            BolsterBeds y = new BolsterBeds();
            Check.write(y, 0, "n12345" + "c481".repeat(beds));
            Check.due("town(0) of " + beds, y.town(0), beds);
            Check.due("count(0) of " + beds, y.count(0), beds);
            Check.due("the last one", y.bed(beds - 1, 0), 1);
            Check.due("one behind it", y.bed(beds, 0), BAD);
        }
        Check.promise(11, "0, 1, .. as they come");
        BolsterBeds x = new BolsterBeds();
        Check.write(x, 3, "  n98761 w137t246  ");
        Check.due("town(3)", x.town(3), 2);
        int[][] due = {{5, 1, 3, 7}, {4, 2, 4, 6}};
        for (int i = 0; i < 2; i++) {
            for (int what = 0; what < 4; what++) {
                Check.bed(x, i, what, due[i][what]);
            }
        }
        int[] colds = {9, 8, 7, 6, 9};
        for (int m = 0; m < 5; m++) {
            Check.due("cold of night " + m, x.count(6), colds[m]);
            x.night();
        }
        Check.promise(11, "NIGHT 0 is due at first, no FEATHERS lie anywhere.");
        BolsterBeds first = Check.town(Check.ALL_KINDS);
        Check.due("the night that is due", first.count(1), 0);
        Check.due("feathers", first.count(4), 0);
        for (int i = 0; i < 6; i++) {
            Check.bed(first, i, 4, 0);
            Check.bed(first, i, 7, 0);
        }
    }

    private static void townAnew() {
        Check.promise(11, "A TOWN by a TEXT (anew: NIGHT 0, no FEATHERS, FINES, DEEDS; kept TOWNS go):");
        BolsterBeds x = Check.town("n99991 b905 q804");
        x.night();
        x.inspect(0);
        x.night();
        x.swap(0, 1);
        x.keep(0);
        x.keep(1);
        x.keep(2);
        Check.due("count(10)", x.count(10), 3);
        Check.write(x, 1, "n12342 s333");
        Check.due("town(1)", x.town(1), 1);
        int[] counts = {1, 0, 0, 0, 0, 0, 1, 0, 0, 2, 0};
        for (int what = 0; what < counts.length; what++) {
            Check.due("anew: count(" + what + ")", x.count(what), counts[what]);
        }
        int[] bed = {1, 3, 3, 3, 0, 0, 5, 0};
        for (int what = 0; what < bed.length; what++) {
            Check.bed(x, 0, what, bed[what]);
        }
        Check.due("bed(1, 0) is gone", x.bed(1, 0), BAD);
        for (int k = 0; k <= 2; k++) {
            int number = k;
            Check.refusedBy(x, "on(" + k + ")", () -> x.on(number), NOTHING);
        }
        Check.due("undo(0)", x.undo(0), 0);
        Check.due("still one bed", x.count(0), 1);
        BolsterBeds y = Check.town("n99991 b905 q804");
        long digest = y.digest();
        y.night();
        y.inspect(0);
        y.inspect(1);
        y.keep(2);
        y.keep(0);
        Check.due("the same one anew", y.town(0), 2);
        Check.due("is as it was", y.digest(), digest);
        y.put(0, 0, 'x');
        Check.due("the town is no text", y.night(), 13 + 15);
        y.text(0, 0);
        Check.due("undone without it", y.undo(0), 1);
        Check.bed(y, 1, 1, 8);
    }

    private static void townRefused() {
        BolsterBeds x = Check.town(Check.ALL_KINDS);
        x.night();
        x.keep(1);
        Check.promise(11, "BAD; NOTHING;");
        Check.refused(x, "town(4)", () -> x.town(4), BAD);
        Check.refused(x, "town(-1)", () -> x.town(-1), BAD);
        Check.refusedBy(x, "town(2)", () -> x.town(2), NOTHING);
        Check.promise(11, "STATE: a FAULT. (STATE behind NOTHING.)");
        for (String text : new String[] {"", "n12345", "n12345b123s12", "n12345b123s12x",
            "n12345b123s123q123c123t123w123b123"}) {
            Check.write(x, 3, text);
            Check.refused(x, "town of \"" + text + "\"", () -> x.town(3), STATE);
        }
        Check.refusedBy(x, "a missing one has no fault", () -> x.town(2), NOTHING);
        x.undo(0);
        Check.due("the town is the one that it was", x.night(), 21);
    }

    private static void kindsAndLetters() {
        Check.promise(12, "KINDS of BEDS and letters: 0 BED (b, 98), 1 STRAW (s, 115; a BED), 2 QUILT (q, 113; a BED), "
            + "3 CLOCK (c, 99; a BED), 4 THIN (t, 116; a QUILT), 5 WALL (w, 119; a STRAW).");
        BolsterBeds x = new BolsterBeds();
        Check.write(x, 0, "n00001x000x000x000x000x000x000");
        int[] letters = {98, 115, 113, 99, 116, 119};
        for (int i = 0; i < 6; i++) {
            x.put(0, 6 + 4 * i, letters[i]);
        }
        Check.due("town(0)", x.town(0), 6);
        for (int i = 0; i < 6; i++) {
            Check.bed(x, i, 0, i);
        }
    }

    private static void bed() {
        Check.promise(12, "Of a BED: 0 the KIND, 1 LEFT, 2 RIGHT, 3 THICK, 4 FEATHERS that LIE, "
            + "5 that CROSS in the NIGHT that is due, 6 the BAR, 7 how often it was FOUND OUT, all told by asked(): 1.");
        BolsterBeds x = Check.town(Check.ALL_KINDS);
        int[][] due = {{0, 7, 2, 5, 0, 2, 5, 0}, {1, 8, 1, 3, 0, 4, 5, 0}, {2, 2, 8, 4, 0, 6, 2, 0},
            {3, 9, 3, 4, 0, 4, 4, 0}, {4, 4, 6, 7, 0, 2, 3, 0}, {5, 9, 0, 2, 0, 3, 4, 0}};
        for (int i = 0; i < 6; i++) {
            for (int what = 0; what < 8; what++) {
                Check.bed(x, i, what, due[i][what]);
            }
        }
        x.night();
        x.inspect(2);
        x.night();
        x.inspect(2);
        x.inspect(1);
        // Cold 1 is due. The quilt: 6 lay, 9 thick then, a bar of 4; 6 + 4 - 4 crossed: found out again.
        int[][] then = {{0, 7, 2, 4, 6, 2, 4, 0}, {1, 8, 1, 9, 0, 0, 11, 1}, {2, 2, 8, 9, 0, 3, 4, 2},
            {3, 9, 3, 3, 4, 4, 3, 0}, {4, 4, 6, 6, 6, 0, 3, 0}, {5, 9, 0, 0, 8, 4, 2, 0}};
        for (int i = 0; i < 6; i++) {
            for (int what = 0; what < 8; what++) {
                Check.bed(x, i, what, then[i][what]);
            }
        }
        BolsterBeds y = Check.town("n12341 b135 c246");
        y.bed(0, 3);
        Check.promise(12, "BAD.");
        Check.refused(y, "bed(2, 0)", () -> y.bed(2, 0), BAD);
        Check.refused(y, "bed(-1, 0)", () -> y.bed(-1, 0), BAD);
        Check.refused(y, "bed(0, 8)", () -> y.bed(0, 8), BAD);
        Check.refused(y, "bed(0, -1)", () -> y.bed(0, -1), BAD);
        Check.refused(y, "bed(greatest, 0)", () -> y.bed(Integer.MAX_VALUE, 0), BAD);
        BolsterBeds none = new BolsterBeds();
        Check.refused(none, "bed(0, 0) without beds", () -> none.bed(0, 0), BAD);
    }

    private static void bars() {
        Check.promise(12, "BAR: as THICK as the bolster; of a STRAW (WALL, too) 2 more; of a QUILT (THIN, too) half (cut).");
        for (int thick = 0; thick <= 9; thick++) {
            BolsterBeds x = Check.town("n00001b00#s00#q00#c00#t00#w00#".replace('#', (char) ('0' + thick)));
            int[] due = {thick, thick + 2, thick / 2, thick, thick / 2, thick + 2};
            for (int i = 0; i < 6; i++) {
                Check.bed(x, i, 6, due[i]);
            }
        }
    }

    private static void marks(String text, int kind, int... due) {
        BolsterBeds x = Check.town(text);
        x.at(0, 0);
        for (int i = 0; i < due.length; i++) {
            long digest = x.digest();
            Check.due("mark(" + i + ", " + kind + ") of " + text, x.mark(i, kind), due[i]);
            Check.due("nothing changes by it", x.digest(), digest);
        }
        Check.due("marks are not told by asked()", x.asked(), 0);
    }

    private static void markOfEachKind() {
        Check.promise(13, "What a BED that IS of a KIND tells: a STRAW (WALL, too) how many FEATHERS more would CROSS in "
            + "the NIGHT that is due, if it was a BED else");
        // Over the bar as beds: 4, 2, 1, 0; as straws: 2, 0, 0, 0.
        marks("n00001 s400 s200 s201 s002", 1, 2, 2, 1, 0);
        // As beds: 9, 4, 3, 1; as walls half of 7, 2, 1, 0.
        marks("n00001 w900 w400 w300 w100", 1, 6, 3, 3, 1);
        marks("n20001 s002 s003", 1, 0, 0);
        Check.promise(13, "a QUILT (THIN, too) how much less its BAR is than THICK");
        marks("n00001 q000 q001 q002 t007 t008 t009", 2, 0, 1, 1, 4, 4, 5);
        Check.promise(13, "a CLOCK in how many NIGHTS one of an even number is due (0: now)");
        marks("n00001 c000 c909", 3, 0, 0);
        Check.promise(13, "a THIN how many more CROSS in it than in a QUILT");
        marks("n00001 t000 t002 t102 t202 t100 t903", 4, 0, 0, 0, 1, 1, 1);
        Check.promise(13, "a WALL how many fewer CROSS than in a STRAW.");
        // As straws: 0, 0, 1, 2, 5, 0.
        marks("n00001 w000 w200 w300 w400 w700 w405", 5, 0, 0, 1, 1, 3, 0);
    }

    private static void markByNight() {
        BolsterBeds x = Check.town("n10901 c000 t119 w119 s119 t900");
        Check.promise(13, "(0: now)");
        Check.due("the clock in night 0", x.mark(0, 3), 0);
        x.night();
        Check.due("the clock in night 1", x.mark(0, 3), 1);
        x.night();
        Check.due("the clock in night 2", x.mark(0, 3), 0);
        x.night();
        Check.due("the clock in night 3", x.mark(0, 3), 1);
        x.undo(0);
        Check.promise(13, "in the NIGHT that is due");
        Check.due("the thin one in night 0", x.mark(1, 4), 0);
        Check.due("the wall in night 0", x.mark(2, 5), 0);
        Check.due("the straw in night 0", x.mark(3, 1), 0);
        x.night();
        x.night();
        Check.due("the thin one in night 2, of cold 9", x.mark(1, 4), 1);
        Check.due("as a quilt: half of 9", x.mark(1, 2), 5);
        Check.due("the straw in night 2: 9 are not more than 9", x.mark(3, 1), 0);
        x.thin(3);
        Check.due("being 8 thick, one more as a bed", x.mark(3, 1), 1);
        x.thin(2);
        x.thin(2);
        x.thin(2);
        Check.due("a wall of 6: 9 as a straw is 1", x.mark(2, 5), 1);
        Check.due("as a bed it is 3", x.mark(2, 1), 3);
    }

    private static void markByHalvesAsNow() {
        Check.promise(13, "in the NIGHT that is due");
        BolsterBeds x = Check.town("n00001 s800 s180 t900 t190 w800 w180");
        int[][] due = {{0, 1, 2}, {2, 4, 1}, {4, 5, 3}, {4, 1, 5}};
        for (int[] d : due) {
            Check.due("mark(" + d[0] + ", " + d[1] + ")", x.mark(d[0], d[1]), d[2]);
        }
        x.swap(0, 1);
        x.swap(2, 3);
        x.swap(4, 5);
        for (int[] d : due) {
            Check.due("mark(" + d[0] + ", " + d[1] + ") without a gap", x.mark(d[0], d[1]), 0);
        }
    }

    private static void markRefused() {
        BolsterBeds x = Check.town(Check.ALL_KINDS);
        Check.promise(13, "UNLIKE.");
        boolean[][] is = new boolean[6][6];
        for (int kind = 1; kind < 6; kind++) {
            is[kind][kind] = true;
        }
        is[4][2] = true;
        is[5][1] = true;
        for (int i = 0; i < 6; i++) {
            for (int kind = 1; kind < 6; kind++) {
                int bed = i;
                int wanted = kind;
                if (is[i][kind]) {
                    Check.due("mark(" + i + ", " + kind + ") is none refused", x.mark(i, kind) >= 0 ? 1 : 0, 1);
                } else {
                    Check.finding(x, "mark(" + i + ", " + kind + ")", () -> x.mark(bed, wanted), UNLIKE);
                }
            }
        }
        Check.refusedBy(x, "a bed is no straw", () -> x.mark(0, 1), UNLIKE);
        Check.refusedBy(x, "a quilt is no thin one", () -> x.mark(2, 4), UNLIKE);
        Check.promise(13, "BAD: also KIND 0");
        BolsterBeds y = Check.town(Check.ALL_KINDS);
        y.night();
        for (int i = 0; i < 6; i++) {
            int bed = i;
            Check.refused(y, "mark(" + i + ", 0)", () -> y.mark(bed, 0), BAD);
        }
        Check.refused(y, "mark(1, 6)", () -> y.mark(1, 6), BAD);
        Check.refused(y, "mark(1, -1)", () -> y.mark(1, -1), BAD);
        Check.refused(y, "mark(6, 1)", () -> y.mark(6, 1), BAD);
        Check.refused(y, "mark(-1, 1)", () -> y.mark(-1, 1), BAD);
        BolsterBeds none = new BolsterBeds();
        Check.refused(none, "mark(0, 1) without beds", () -> none.mark(0, 1), BAD);
    }

    private static void crossByNights() {
        Check.promise(14, "NIGHT m (0, 1, ..) has the COLD of number m by 4 left over.");
        // Colds 2, 4, 1, 3: by gap and bar as in bed().
        int[][] due = {
            {2, 4, 1, 3}, {4, 6, 3, 5}, {6, 8, 5, 7}, {4, 0, 3, 0}, {2, 4, 0, 3}, {3, 4, 3, 4}};
        for (int i = 0; i < 6; i++) {
            BolsterBeds x = Check.town(Check.ALL_KINDS);
            for (int m = 0; m <= 99; m++) {
                Check.due("cross(" + i + ", " + m + ")", x.cross(i, m), due[i][m % 4]);
            }
            Check.due("it tells nothing by asked()", x.asked(), 0);
        }
        Check.promise(14, "How many FEATHERS would CROSS in a BED in NIGHT m (0 .. 99), all as it is now.");
        BolsterBeds x = Check.town(Check.ALL_KINDS);
        x.night();
        x.swap(0, 4);
        long digest = x.digest();
        Check.due("the straw is 2 thick", x.cross(1, 0), 5);
        Check.due("the bed's halves are 7, 6", x.cross(0, 1), 0);
        Check.due("the thin one's are 4, 2", x.cross(4, 1), 4);
        Check.due("nothing changes by it", x.digest(), digest);
    }

    private static void crosses(String bed, int... due) {
        for (int cold = 0; cold <= 9; cold++) {
            BolsterBeds x = Check.town("n" + cold + cold + "001" + bed);
            Check.due(bed + " by cold " + cold, x.cross(0, 0), due[cold]);
        }
    }

    private static void crossByKinds() {
        Check.promise(14, "GAP of a BED: how much LEFT and RIGHT differ.");
        crosses("b900", 9, 10, 11, 12, 13, 14, 15, 16, 17, 18);
        crosses("b090", 9, 10, 11, 12, 13, 14, 15, 16, 17, 18);
        crosses("b440", 0, 1, 2, 3, 4, 5, 6, 7, 8, 9);
        Check.promise(14, "In a NIGHT as many FEATHERS CROSS as GAP and COLD together are more than BAR (0 at least)");
        crosses("b354", 0, 0, 0, 1, 2, 3, 4, 5, 6, 7);
        crosses("b009", 0, 0, 0, 0, 0, 0, 0, 0, 0, 0);
        crosses("s353", 0, 0, 0, 0, 1, 2, 3, 4, 5, 6);
        crosses("q355", 0, 1, 2, 3, 4, 5, 6, 7, 8, 9);
        Check.promise(14, "of a CLOCK none in NIGHTS of an odd number");
        crosses("c354", 0, 0, 0, 1, 2, 3, 4, 5, 6, 7);
        BolsterBeds clock = Check.town("n99991 c900");
        for (int m = 0; m <= 99; m++) {
            Check.due("the clock in night " + m, clock.cross(0, m), m % 2 == 0 ? 18 : 0);
        }
        Check.promise(14, "of a THIN 1 more, if there are any");
        crosses("t355", 0, 2, 3, 4, 5, 6, 7, 8, 9, 10);
        crosses("t900", 10, 11, 12, 13, 14, 15, 16, 17, 18, 19);
        Check.promise(14, "of a WALL half (cut).");
        crosses("w353", 0, 0, 0, 0, 0, 1, 1, 2, 2, 3);
        crosses("w900", 3, 4, 4, 5, 5, 6, 6, 7, 7, 8);
    }

    private static void crossRefused() {
        BolsterBeds x = Check.town("n12341 b135 c246");
        Check.promise(14, "BAD.");
        Check.due("cross(1, 99)", x.cross(1, 99), 0);
        Check.refused(x, "cross(0, 100)", () -> x.cross(0, 100), BAD);
        Check.refused(x, "cross(0, -1)", () -> x.cross(0, -1), BAD);
        Check.refused(x, "cross(2, 0)", () -> x.cross(2, 0), BAD);
        Check.refused(x, "cross(-1, 0)", () -> x.cross(-1, 0), BAD);
        BolsterBeds none = new BolsterBeds();
        Check.refused(none, "cross(0, 0) without beds", () -> none.cross(0, 0), BAD);
    }
}
