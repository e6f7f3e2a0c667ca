import java.util.function.IntSupplier;

/** Promises 36 to 42: what is told. */
public final class ToldTest {
    private static final int BAD = BolsterBeds.BAD, FINDING = BolsterBeds.FINDING, NONE = BolsterBeds.NONE;

    public static void main(String[] args) {
        askedByEach();
        askedByNoneElse();
        askedStays();
        upperAndLower();
        count();
        countOfBeds();
        countWithoutBeds();
        countRefused();
        eachFinding();
        refusalsChangeNothing();
        findings();
        constants();
        digestOfNew();
        digest();
        digestOfRowsAndTexts();
        Check.end("ToldTest");
    }

    private static void askedByEach() {
        Check.promise(36, "What the latest lay(), at(), mean(), bed(), then(), brings(), rather(), test()");
        BolsterBeds x = Check.town(Check.ALL_KINDS);
        Check.row(x, 0, 4, 5, NONE);
        x.lay(0, 0, 6);
        Check.due("by lay()", x.asked(), 4);
        x.at(0, 1);
        Check.due("by at()", x.asked(), 5);
        x.mean(0);
        Check.due("by mean()", x.asked(), 0);
        x.bed(1, 1);
        Check.due("by bed()", x.asked(), 8);
        x.then(0, 2);
        Check.due("by then()", x.asked(), 4);
        Check.row(x, 1, 2, 1);
        x.at(0, 1);
        x.brings(1);
        Check.due("by brings()", x.asked(), 2);
        x.at(0, 1);
        x.rather();
        Check.due("by rather()", x.asked(), 2);
        x.at(0, 2);
        Check.due("NONE laid is told", x.asked(), NONE);
        Check.row(x, 2, 0, 4);
        x.at(0, 2);
        x.test(4, 2);
        Check.due("by test()", x.asked(), 5);
        Check.due("again", x.asked(), 5);
        Check.promise(36, "told; 0 before.");
        Check.due("asked() of a new one", new BolsterBeds().asked(), 0);
    }

    private static void askedByNoneElse() {
        Check.promise(36, "What the latest lay(), at(), mean(), bed(), then(), brings(), rather(), test()");
        BolsterBeds x = Check.town(Check.ALL_KINDS);
        Check.row(x, 0, 0, 4);
        Check.row(x, 2, 7, 7);
        x.at(2, 0);
        IntSupplier[] calls = {
            () -> x.row(3, 1), () -> x.text(3, 1), () -> x.put(3, 0, 77), () -> x.copy(0, 0, 3, 0, 1), () -> x.fault(3),
            () -> x.mark(1, 1), () -> x.cross(0, 3), () -> x.night(), () -> x.inspect(2), () -> x.thin(0),
            () -> x.swap(0, 1), () -> x.keep(0), () -> x.undo(1), () -> x.on(0), () -> x.when(0), () -> x.least(0, 3),
            () -> x.round(2, 4), () -> x.marry(5), () -> x.thicks(0, 0), () -> x.kinds(0, 0), () -> x.duel(2),
            () -> x.odds(1, 3), () -> x.mid(4), () -> x.lots(2, 5), () -> (int) x.upper(), () -> (int) x.lower(),
            () -> x.count(4), () -> x.finding(), () -> x.findings(2), () -> (int) x.digest() & 1, () -> x.tear(0),
            () -> x.town(0)};
        for (int c = 0; c < calls.length; c++) {
            Check.due("call " + c + " is none refused", calls[c].getAsInt() >= 0 ? 1 : 0, 1);
            Check.due("asked() stays by call " + c, x.asked(), 7);
        }
    }

    private static void askedStays() {
        Check.promise(36, "that was not refused (nor answered NONE)");
        BolsterBeds x = Check.town(Check.ALL_KINDS);
        Check.row(x, 0, 8, 9, 11);
        Check.row(x, 1, 0, 2, 0, 3);
        x.row(2, 0);
        x.at(0, 1);
        IntSupplier[] calls = {
            () -> x.lay(6, 0, 1), () -> x.lay(4, 0, 1), () -> x.lay(0, 3, 1), () -> x.at(-1, 0), () -> x.at(4, 0),
            () -> x.at(0, 3), () -> x.mean(6), () -> x.mean(4), () -> x.mean(2), () -> x.bed(6, 0), () -> x.bed(0, 8),
            () -> x.then(6, 0), () -> x.then(0, 41), () -> x.brings(6), () -> x.brings(4), () -> x.brings(0),
            () -> x.test(6, 1), () -> x.test(0, 4), () -> x.test(0, 0), () -> x.test(0, 1)};
        for (int c = 0; c < calls.length; c++) {
            Check.due("call " + c + " is refused, or none", calls[c].getAsInt() < 0 ? 1 : 0, 1);
            Check.due("asked() stays by call " + c, x.asked(), 9);
        }
        Check.due("none fits", x.test(0, 1), NONE);
        x.tear(1);
        x.tear(0);
        Check.due("the row that told it is gone", x.asked(), 9);
    }

    private static void upperAndLower() {
        BolsterBeds x = new BolsterBeds();
        Check.promise(37, "0 before.");
        Check.due("upper()", x.upper(), 0);
        Check.promise(38, "1 before.");
        Check.due("lower()", x.lower(), 1);
        Check.write(x, 0, "n00001 b200");
        x.town(0);
        x.night();
        Check.promise(37, "The upper number that was told last;");
        Check.chance(x, "odds(1, 8)", x.odds(1, 8), 2, 3);
        Check.chance(x, "mid(9)", x.mid(9), 3, 2);
        x.odds(7, 0);
        x.mid(13);
        x.inspect(0);
        x.bed(0, 1);
        Check.due("upper() stays", x.upper(), 3);
        Check.promise(38, "Its lower number;");
        Check.due("lower() stays", x.lower(), 2);
        Check.chance(x, "mid(9) of none", x.mid(9), 0, 1);
        Check.chance(x, "odds(0, 9) of none", x.odds(0, 9), 1, 1);
    }

    private static void counts(BolsterBeds x, int... due) {
        for (int what = 0; what < due.length; what++) {
            Check.due("count(" + what + ")", x.count(what), due[what]);
        }
    }

    private static void count() {
        Check.promise(39, "0 BEDS, 1 the NIGHT that is due, 2 DEEDS, 3 FINES, 4 FEATHERS that LIE in all, "
            + "5 BEDS (bits) that would be FOUND OUT now, 6 the COLD of the NIGHT that is due");
        BolsterBeds x = Check.town(Check.ALL_KINDS);
        counts(x, 6, 0, 0, 0, 0, 0, 2, 2, 0, 1, 0);
        x.row(5, 0);
        x.row(1, 40);
        x.text(3, 0);
        x.keep(2);
        x.night();
        counts(x, 6, 1, 1, 0, 21, 1 << 2, 4, 2, 2, 2, 1);
        x.inspect(2);
        x.night();
        x.keep(0);
        counts(x, 6, 2, 3, 1, 41, 1 << 0 | 1 << 1 | 1 << 4 | 1 << 5 | 1 << 2, 1, 2, 2, 2, 2);
        x.night();
        Check.due("cold of night 3", x.count(6), 3);
        x.night();
        Check.due("the colds come again", x.count(6), 2);
    }

    private static void countOfBeds() {
        Check.promise(39, "7 QUILTS (THIN ones, too), 8 ROWS, 9 TEXTS that are there, 10 kept TOWNS.");
        Check.due("quilts, thin ones", Check.town("n11111 q111 b111 t111 q111").count(7), 3);
        Check.due("others are none", Check.town("n11111 b111 s111 c111 w111").count(7), 0);
        Check.due("six of them", Check.town("n11111 q111 t111 q111 t111 q111 t111").count(7), 6);
        BolsterBeds x = Check.town(Check.STILL);
        for (int r = 0; r < 6; r++) {
            x.row(r, r % 2);
            Check.due("rows", x.count(8), r + 1);
        }
        for (int t = 1; t < 4; t++) {
            x.text(t, t % 2);
            Check.due("texts", x.count(9), t + 1);
        }
        for (int k = 0; k < 3; k++) {
            x.keep(k);
            Check.due("kept towns", x.count(10), k + 1);
        }
        x.keep(1);
        x.row(1, 3);
        x.text(1, 3);
        Check.due("kept anew", x.count(10), 3);
        Check.due("a row anew", x.count(8), 6);
        Check.due("a text anew", x.count(9), 4);
        x.tear(2);
        Check.due("a row less", x.count(8), 5);
        x.town(0);
        Check.due("no kept ones", x.count(10), 0);
    }

    private static void countWithoutBeds() {
        Check.promise(39, "(0 without BEDS)");
        BolsterBeds none = new BolsterBeds();
        Check.write(none, 0, "n9999");
        none.town(0);
        Check.due("no town by a fault", none.count(6), 0);
        Check.write(none, 0, "n99991");
        none.fault(0);
        none.town(0);
        Check.due("nor by an item alone", none.count(6), 0);
        Check.due("nor are there beds", none.count(0), 0);
    }

    private static void countRefused() {
        Check.promise(39, "BAD.");
        BolsterBeds x = Check.town(Check.ALL_KINDS);
        for (int wrong : new int[] {-1, 11, Integer.MIN_VALUE, Integer.MAX_VALUE}) {
            Check.refused(x, "count(" + wrong + ")", () -> x.count(wrong), BAD);
        }
    }

    private static void eachFinding() {
        BolsterBeds x = new BolsterBeds();
        Check.promise(40, "(0 before any).");
        Check.due("finding()", x.finding(), 0);
        Check.due("no finding by BAD", x.row(9, 0), BAD);
        Check.due("nor by STATE", x.night(), BolsterBeds.STATE);
        Check.due("finding()", x.finding(), 0);
        Check.promise(40, "FINDINGS: 1 NOTHING (a ROW, a TEXT, a kept TOWN that is missing), 2 BEYOND (a place that there is "
            + "not), 3 UNLIKE (a BED of another KIND; a number that is none), 4 NOUGHT (shared among none), 5 SIZE "
            + "(fewer than none; not as many as due).");
        Check.write(x, 0, "n11111b111");
        x.town(0);
        Check.finding(x, "a missing row", () -> x.at(0, 0), 1);
        x.row(0, 0);
        Check.finding(x, "a place that there is not", () -> x.at(0, 0), 2);
        Check.finding(x, "a missing text", () -> x.fault(1), 1);
        Check.finding(x, "shared among none", () -> x.mean(0), 4);
        Check.finding(x, "a missing kept town", () -> x.on(0), 1);
        Check.finding(x, "fewer than none", () -> x.row(0, -3), 5);
        Check.finding(x, "a bed of another kind", () -> x.mark(0, 1), 3);
        Check.row(x, 1, 1);
        Check.finding(x, "not as many as due", () -> x.kinds(0, 1), 5);
        Check.finding(x, "a number that is none", () -> x.brings(1), 3);
        Check.promise(40, "The latest FINDING");
        x.row(6, -3);
        x.fault(0);
        x.text(2, 1);
        x.at(1, 0);
        Check.due("it stays by what is no finding", x.finding(), 3);
        x.put(0, 10, 1);
        Check.due("then the latest", x.finding(), 2);
    }

    private static void refusalsChangeNothing() {
        Check.promise(40, "What is refused changes nothing but finding(), findings().");
        BolsterBeds x = Check.town("n99991 b909 s808");
        Check.write(x, 1, "n99991");
        x.lots(20, 7);
        x.night();
        x.bed(0, 1);
        x.mid(1);
        Check.refused(x, "BAD", () -> x.undo(22), BAD);
        Check.refused(x, "FULL", () -> x.lots(20, 7), BolsterBeds.FULL);
        Check.refused(x, "STATE", () -> x.town(1), BolsterBeds.STATE);
        Check.refusedBy(x, "a finding", () -> x.mark(0, 5), 3);
    }

    private static void findings() {
        Check.promise(41, "How often a FINDING (1 .. 5) was answered.");
        BolsterBeds x = new BolsterBeds();
        for (int f = 1; f <= 5; f++) {
            Check.due("findings(" + f + ") of a new one", x.findings(f), 0);
        }
        Check.row(x, 0);
        x.at(0, 0);
        x.tear(1);
        x.mean(0);
        x.mean(0);
        x.mean(0);
        x.row(2, -1);
        x.text(1, -1);
        x.row(6, -1);
        int[] due = {1, 1, 0, 3, 2};
        for (int f = 1; f <= 5; f++) {
            Check.due("findings(" + f + ")", x.findings(f), due[f - 1]);
        }
        for (int often = 0; often < 300; often++) {
            x.mean(0);
        }
        Check.due("often", x.findings(4), 303);
        Check.promise(41, "BAD.");
        for (int wrong : new int[] {0, 6, -1, Integer.MAX_VALUE, Integer.MIN_VALUE}) {
            Check.refused(x, "findings(" + wrong + ")", () -> x.findings(wrong), BAD);
        }
    }

    private static void constants() {
        Check.promise(40, "NONE -9.");
        int[] due = {BolsterBeds.BAD, -1, BolsterBeds.FULL, -2, FINDING, -3, BolsterBeds.STATE, -4, BolsterBeds.SPENT, -6,
            NONE, -9};
        for (int c = 0; c < due.length; c += 2) {
            Check.due("constant " + c / 2, due[c], due[c + 1]);
        }
    }

    private static long on(long h, long... values) {
        for (long v : values) {
            h = 31 * h + v;
        }
        return h;
    }

    private static void digestOfNew() {
        Check.promise(42, "h = 17; then h = 31 h + v for each v");
        long h = on(17, 0, 0, 0, 0, 0, 0, 0, 0, 0, 0, 0);
        h = on(h, -1, -1, -1);
        h = on(h, -1, -1, -1, -1, -1, -1);
        h = on(h, -1, -1, -1, -1);
        BolsterBeds x = new BolsterBeds();
        Check.due("digest() of a new one", x.digest(), h);
        Check.due("again", x.digest(), h);
    }

    private static void digest() {
        Check.promise(42, "(of a call that tells by asked(): what it tells, not the 1 that it answers; asked() stays): "
            + "count() 0 to 10; of each BED bed() 0 to 7; of each kept TOWN how many DEEDS (-1: missing);");
        BolsterBeds x = Check.town("n23451 b412 q950");
        x.night();
        x.inspect(0);
        x.keep(1);
        x.thin(0);
        x.bed(0, 1);
        // Night 0: 3 cross in the first one, 6 in the second one; found out it is 9 thick, then 8.
        long h = on(17, 2, 1, 3, 1, 6, 2, 3, 1, 0, 1, 1);
        h = on(h, 0, 4, 1, 8, 0, 0, 8, 1);
        h = on(h, 2, 9, 5, 0, 6, 7, 0, 0);
        h = on(h, -1, 2, -1);
        h = on(h, -1, -1, -1, -1, -1, -1);
        h = on(h, 16);
        for (char sign : "n23451 b412 q950".toCharArray()) {
            h = on(h, sign);
        }
        h = on(h, -1, -1, -1);
        Check.due("digest()", x.digest(), h);
        Check.due("asked() stays", x.asked(), 4);
        Check.due("nothing changes by it", x.digest(), h);
    }

    private static void digestOfRowsAndTexts() {
        Check.promise(42, "of each ROW its size (-1: missing) and places, of each TEXT likewise.");
        BolsterBeds x = new BolsterBeds();
        Check.row(x, 1, 7, -3, Integer.MIN_VALUE);
        x.row(5, 0);
        x.text(2, 2);
        x.put(2, 0, 200);
        long h = on(17, 0, 0, 0, 0, 0, 0, 0, 0, 2, 1, 0);
        h = on(h, -1, -1, -1);
        h = on(h, -1, 3, 7, -3, Integer.MIN_VALUE, -1, -1, -1, 0);
        h = on(h, -1, -1, 2, -56, 32, -1);
        Check.due("digest() of rows and texts", x.digest(), h);
        x.tear(1);
        x.tear(5);
        x.text(2, 0);
        h = on(17, 0, 0, 0, 0, 0, 0, 0, 0, 0, 1, 0);
        h = on(h, -1, -1, -1);
        h = on(h, -1, -1, -1, -1, -1, -1);
        h = on(h, -1, -1, 0, -1);
        Check.due("digest() of an empty text", x.digest(), h);
    }
}
