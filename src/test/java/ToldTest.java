/** Promises 36 to 42: what is told. */
public final class ToldTest {
    private static final int BAD = BolsterBeds.BAD, FINDING = BolsterBeds.FINDING, NONE = BolsterBeds.NONE;

    public static void main(String[] args) {
        asked();
        upperAndLower();
        count();
        findings();
        digestOfNew();
        digest();
        digestOfRowsAndTexts();
        Check.end("ToldTest");
    }

    private static void asked() {
        BolsterBeds x = Check.town(Check.ALL_KINDS);
        Check.due("0 before", x.asked(), 0);
        Check.row(x, 0, 4, 5, NONE);
        Check.due("by lay()", x.asked(), 0);
        x.at(0, 1);
        Check.due("by at()", x.asked(), 5);
        x.lay(0, 0, 6);
        Check.due("by lay() then", x.asked(), 4);
        x.mean(0);
        Check.due("by mean()", x.asked(), 0);
        x.bed(1, 1);
        Check.due("by bed()", x.asked(), 8);
        x.then(0, 2);
        Check.due("by then()", x.asked(), 4);
        Check.row(x, 1, 2, 1);
        x.brings(1);
        Check.due("by brings()", x.asked(), 2);
        x.rather();
        Check.due("by rather()", x.asked(), 2);
        Check.row(x, 2, 0, 4);
        x.test(4, 2);
        Check.due("by test()", x.asked(), 5);
        x.row(3, 1);
        x.text(3, 1);
        x.put(3, 0, 77);
        x.copy(0, 0, 3, 0, 1);
        x.fault(3);
        x.mark(1, 1);
        x.cross(0, 3);
        x.night();
        x.inspect(2);
        x.thin(0);
        x.swap(0, 1);
        x.keep(0);
        x.undo(1);
        x.on(0);
        x.when(0);
        x.least(0, 3);
        x.round(2, 4);
        x.marry(5);
        x.thicks(0, 2);
        x.kinds(0, 2);
        x.duel(2);
        x.odds(1, 3);
        x.mid(4);
        x.lots(2, 5);
        x.count(4);
        x.finding();
        x.findings(2);
        x.digest();
        x.tear(0);
        x.town(0);
        Check.due("by none else", x.asked(), 5);
        x.at(0, 9);
        x.bed(0, 9);
        Check.due("nor by what is refused", x.asked(), 5);
    }

    private static void upperAndLower() {
        BolsterBeds x = new BolsterBeds();
        Check.due("upper() before", x.upper(), 0);
        Check.due("lower() before", x.lower(), 1);
        Check.write(x, 0, "n00001 b200");
        x.town(0);
        x.night();
        Check.chance(x, "odds(1, 8)", x.odds(1, 8), 2, 3);
        Check.chance(x, "mid(9)", x.mid(9), 3, 2);
        x.odds(7, 0);
        x.mid(13);
        x.inspect(0);
        Check.due("upper() stays", x.upper(), 3);
        Check.due("lower() stays", x.lower(), 2);
        Check.chance(x, "mid(9) of none", x.mid(9), 0, 1);
    }

    private static void counts(BolsterBeds x, int... due) {
        for (int what = 0; what < due.length; what++) {
            Check.due("count(" + what + ")", x.count(what), due[what]);
        }
    }

    private static void count() {
        BolsterBeds x = Check.town(Check.ALL_KINDS);
        counts(x, 6, 0, 0, 0, 0, 0, 2, 2, 0, 1, 0);
        x.row(5, 0);
        x.row(1, 40);
        x.text(3, 0);
        x.keep(2);
        x.night();
        counts(x, 6, 1, 1, 0, 21, 1 << 2, 4, 2, 2, 2, 1);
        x.inspect(2);
        x.night();
        x.keep(0);
        counts(x, 6, 2, 3, 1, 41, 1 << 0 | 1 << 1 | 1 << 4 | 1 << 5 | 1 << 2, 1, 2, 2, 2, 2);
        x.night();
        x.night();
        Check.due("the colds come again", x.count(6), 2);
        for (int wrong : new int[] {-1, 11, Integer.MIN_VALUE, Integer.MAX_VALUE}) {
            Check.refused(x, "count(" + wrong + ")", () -> x.count(wrong), BAD);
        }
        Check.due("quilts alone", Check.town("n11111 q111 b111 t111 q111").count(7), 3);
        BolsterBeds none = new BolsterBeds();
        Check.write(none, 0, "n9999");
        none.town(0);
        Check.due("no cold without beds", none.count(6), 0);
    }

    private static void findings() {
        BolsterBeds x = new BolsterBeds();
        Check.due("finding() before", x.finding(), 0);
        for (int f = 1; f <= 5; f++) {
            Check.due("findings(" + f + ") before", x.findings(f), 0);
        }
        Check.due("a missing row", x.at(0, 0), FINDING);
        Check.due("NOTHING", x.finding(), 1);
        x.row(0, 0);
        Check.due("a place that there is not", x.at(0, 0), FINDING);
        Check.due("BEYOND", x.finding(), 2);
        Check.due("shared among none", x.mean(0), FINDING);
        Check.due("NOUGHT", x.finding(), 4);
        Check.due("fewer than none", x.row(0, -3), FINDING);
        Check.due("SIZE", x.finding(), 5);
        Check.due("no more by BAD", x.row(6, -3), BAD);
        Check.due("SIZE still", x.finding(), 5);
        Check.write(x, 0, "n11111b111");
        x.town(0);
        Check.due("another kind", x.mark(0, 1), FINDING);
        Check.due("UNLIKE", x.finding(), 3);
        x.mean(0);
        x.mean(0);
        int[] due = {1, 1, 1, 3, 1};
        for (int f = 1; f <= 5; f++) {
            Check.due("findings(" + f + ")", x.findings(f), due[f - 1]);
        }
        for (int wrong : new int[] {0, 6, -1, Integer.MAX_VALUE}) {
            Check.due("findings(" + wrong + ")", x.findings(wrong), BAD);
        }
        Check.due("NOUGHT at the end", x.finding(), 4);
    }

    private static long on(long h, long... values) {
        for (long v : values) {
            h = 31 * h + v;
        }
        return h;
    }

    private static void digestOfNew() {
        long h = on(17, 0, 0, 0, 0, 0, 0, 0, 0, 0, 0, 0);
        h = on(h, -1, -1, -1);
        h = on(h, -1, -1, -1, -1, -1, -1);
        h = on(h, -1, -1, -1, -1);
        Check.due("digest() of a new one", new BolsterBeds().digest(), h);
    }

    private static void digest() {
        BolsterBeds x = Check.town("n23451 b412 q950");
        x.night();
        x.inspect(0);
        x.keep(1);
        x.thin(0);
        x.bed(0, 1);
        // Night 0: 3 cross in the first one, 6 in the second one; found out it is 9 thick, then 8.
        long h = on(17, 2, 1, 3, 1, 6, 2, 3, 1, 0, 1, 1);
        h = on(h, 0, 4, 1, 8, 0, 0, 8, 1);
        h = on(h, 2, 9, 5, 0, 6, 7, 0, 0);
        h = on(h, -1, 2, -1);
        h = on(h, -1, -1, -1, -1, -1, -1);
        h = on(h, 16);
        for (char sign : "n23451 b412 q950".toCharArray()) {
            h = on(h, sign);
        }
        h = on(h, -1, -1, -1);
        Check.due("digest()", x.digest(), h);
        Check.due("asked() stays", x.asked(), 4);
    }

    private static void digestOfRowsAndTexts() {
        BolsterBeds x = new BolsterBeds();
        Check.row(x, 1, 7, -3, Integer.MIN_VALUE);
        x.row(5, 0);
        x.text(2, 2);
        x.put(2, 0, 200);
        long h = on(17, 0, 0, 0, 0, 0, 0, 0, 0, 2, 1, 0);
        h = on(h, -1, -1, -1);
        h = on(h, -1, 3, 7, -3, Integer.MIN_VALUE, -1, -1, -1, 0);
        h = on(h, -1, -1, 2, -56, 32, -1);
        Check.due("digest() of rows and texts", x.digest(), h);
    }
}
