/** Promises 1 to 9: a new object, rows, texts. */
public final class RowsTest {
    private static final int BAD = BolsterBeds.BAD;
    private static final int NOTHING = 1, BEYOND = 2, NOUGHT = 4, SIZE = 5;

    public static void main(String[] args) {
        newObject();
        row();
        layAndAt();
        tear();
        copy();
        copyRefused();
        mean();
        text();
        put();
        Check.end("RowsTest");
    }

    private static void newObject() {
        BolsterBeds x = new BolsterBeds();
        for (int what = 0; what <= 10; what++) {
            Check.due("new: count(" + what + ")", x.count(what), 0);
        }
        for (int r = 0; r <= 5; r++) {
            int number = r;
            Check.finding(x, "new: tear(" + r + ")", () -> x.tear(number), NOTHING);
        }
        for (int t = 0; t <= 3; t++) {
            int number = t;
            Check.finding(x, "new: fault(" + t + ")", () -> x.fault(number), NOTHING);
        }
        Check.due("new: bed(0, 0)", x.bed(0, 0), BAD);
    }

    private static void row() {
        BolsterBeds x = new BolsterBeds();
        Check.due("row(0, 40)", x.row(0, 40), 40);
        Check.due("row(5, 0)", x.row(5, 0), 0);
        Check.due("count(8)", x.count(8), 2);
        x.lay(0, 39, 7);
        Check.due("row(0, 40) anew", x.row(0, 40), 40);
        x.at(0, 39);
        Check.due("row anew is 0", x.asked(), 0);
        x.lay(0, 1, 7);
        x.row(0, 1);
        x.row(0, 2);
        Check.rowIs(x, "grown row", 0, 0, 0);
        x.lay(0, 0, 7);
        x.row(0, 2);
        Check.rowIs(x, "row anew", 0, 0, 0);
        Check.refused(x, "row(-1, 1)", () -> x.row(-1, 1), BAD);
        Check.refused(x, "row(6, -1)", () -> x.row(6, -1), BAD);
        Check.refused(x, "row(0, 41)", () -> x.row(0, 41), BAD);
        Check.refusedBy(x, "row(0, -1)", () -> x.row(0, -1), SIZE);
        Check.refusedBy(x, "row(1, least)", () -> x.row(1, Integer.MIN_VALUE), SIZE);
        Check.due("count(8) at the end", x.count(8), 2);
    }

    private static void layAndAt() {
        BolsterBeds x = new BolsterBeds();
        x.row(2, 3);
        Check.due("lay(2, 0, MIN)", x.lay(2, 0, Integer.MIN_VALUE), 1);
        Check.due("it was", x.asked(), 0);
        Check.due("lay(2, 0, 5)", x.lay(2, 0, 5), 1);
        Check.due("it was MIN", x.asked(), Integer.MIN_VALUE);
        x.lay(2, 2, -8);
        Check.rowIs(x, "laid", 2, 5, 0, -8);
        x.at(2, 0);
        Check.refused(x, "lay(6, 0, 1)", () -> x.lay(6, 0, 1), BAD);
        Check.refused(x, "lay(-1, 9, 1)", () -> x.lay(-1, 9, 1), BAD);
        Check.refusedBy(x, "lay(3, 0, 1)", () -> x.lay(3, 0, 1), NOTHING);
        Check.refusedBy(x, "lay(3, -1, 1)", () -> x.lay(3, -1, 1), NOTHING);
        Check.refusedBy(x, "lay(2, 3, 1)", () -> x.lay(2, 3, 1), BEYOND);
        Check.refusedBy(x, "lay(2, -1, 1)", () -> x.lay(2, -1, 1), BEYOND);
        Check.refused(x, "at(6, 0)", () -> x.at(6, 0), BAD);
        Check.refusedBy(x, "at(0, 0)", () -> x.at(0, 0), NOTHING);
        Check.refusedBy(x, "at(2, 3)", () -> x.at(2, 3), BEYOND);
        Check.refusedBy(x, "at(2, MAX)", () -> x.at(2, Integer.MAX_VALUE), BEYOND);
        Check.refusedBy(x, "at(2, MIN)", () -> x.at(2, Integer.MIN_VALUE), BEYOND);
    }

    private static void tear() {
        BolsterBeds x = new BolsterBeds();
        x.row(4, 2);
        Check.due("tear(4)", x.tear(4), 1);
        Check.due("count(8)", x.count(8), 0);
        Check.refusedBy(x, "tear(4) again", () -> x.tear(4), NOTHING);
        Check.refusedBy(x, "at(4, 0)", () -> x.at(4, 0), NOTHING);
        Check.refused(x, "tear(6)", () -> x.tear(6), BAD);
        Check.refused(x, "tear(-1)", () -> x.tear(-1), BAD);
    }

    private static void copy() {
        BolsterBeds x = new BolsterBeds();
        Check.row(x, 0, 1, 2, 3, 4);
        Check.row(x, 1, 9, 9, 9);
        Check.due("copy(0, 1, 1, 0, 3)", x.copy(0, 1, 1, 0, 3), 1);
        Check.rowIs(x, "copied", 1, 2, 3, 4);
        Check.rowIs(x, "copied from", 0, 1, 2, 3, 4);
        Check.due("copy up itself", x.copy(0, 0, 0, 1, 3), 1);
        Check.rowIs(x, "up itself", 0, 1, 1, 2, 3);
        Check.due("copy down itself", x.copy(0, 1, 0, 0, 3), 1);
        Check.rowIs(x, "down itself", 0, 1, 2, 3, 3);
        Check.due("copy nothing at the ends", x.copy(0, 4, 1, 3, 0), 1);
        Check.rowIs(x, "nothing copied", 1, 2, 3, 4);
        Check.row(x, 5, 6, 7);
        Check.due("copy(5, 0, 1, 1, 2)", x.copy(5, 0, 1, 1, 2), 1);
        Check.rowIs(x, "from the last row", 1, 2, 6, 7);
        Check.due("copy(1, 0, 5, 1, 1)", x.copy(1, 0, 5, 1, 1), 1);
        Check.rowIs(x, "to the last row", 5, 6, 2);
        x.row(2, 40);
        x.row(3, 40);
        x.lay(2, 39, 8);
        Check.due("copy of a whole row", x.copy(2, 0, 3, 0, 40), 1);
        x.at(3, 39);
        Check.due("its last place", x.asked(), 8);
    }

    private static void copyRefused() {
        BolsterBeds x = new BolsterBeds();
        Check.row(x, 0, 1, 2, 3);
        Check.row(x, 1, 4, 5);
        Check.refused(x, "copy from 6", () -> x.copy(6, 0, 0, 0, -1), BAD);
        Check.refused(x, "copy to -1", () -> x.copy(0, 0, -1, 0, 1), BAD);
        Check.refusedBy(x, "copy -1 of a missing one", () -> x.copy(2, 0, 0, 0, -1), SIZE);
        Check.refusedBy(x, "copy from a missing one", () -> x.copy(2, -1, 0, 0, 1), NOTHING);
        Check.refusedBy(x, "copy to a missing one", () -> x.copy(0, 9, 2, 0, 1), NOTHING);
        Check.refusedBy(x, "copy 2 from 2", () -> x.copy(0, 2, 1, 0, 2), BEYOND);
        Check.refusedBy(x, "copy 2 to 1", () -> x.copy(0, 0, 1, 1, 2), BEYOND);
        Check.refusedBy(x, "copy 0 from -1", () -> x.copy(0, -1, 1, 0, 0), BEYOND);
        Check.refusedBy(x, "copy 0 to -1", () -> x.copy(0, 0, 1, -1, 0), BEYOND);
        Check.refusedBy(x, "copy 0 from 4", () -> x.copy(0, 4, 1, 0, 0), BEYOND);
        Check.refusedBy(x, "copy 0 to 3", () -> x.copy(0, 0, 1, 3, 0), BEYOND);
        Check.refusedBy(x, "copy MAX", () -> x.copy(0, 1, 1, 1, Integer.MAX_VALUE), BEYOND);
        Check.refusedBy(x, "copy from MAX", () -> x.copy(0, Integer.MAX_VALUE, 1, 0, 1), BEYOND);
    }

    private static void mean() {
        BolsterBeds x = new BolsterBeds();
        Check.row(x, 0, 1, 2, 2);
        Check.due("mean(0)", x.mean(0), 1);
        Check.due("cut", x.asked(), 1);
        Check.row(x, 0, -1, -2, -2);
        x.mean(0);
        Check.due("cut below 0", x.asked(), -1);
        Check.row(x, 0, Integer.MAX_VALUE, Integer.MAX_VALUE, Integer.MAX_VALUE);
        x.mean(0);
        Check.due("mean of great ones", x.asked(), Integer.MAX_VALUE);
        Check.row(x, 0, -6);
        x.mean(0);
        Check.due("mean of one", x.asked(), -6);
        x.row(1, 0);
        Check.refused(x, "mean(6)", () -> x.mean(6), BAD);
        Check.refusedBy(x, "mean(2)", () -> x.mean(2), NOTHING);
        Check.refusedBy(x, "mean(1)", () -> x.mean(1), NOUGHT);
    }

    private static void text() {
        BolsterBeds x = new BolsterBeds();
        Check.due("text(0, 60)", x.text(0, 60), 60);
        Check.due("text(3, 0)", x.text(3, 0), 0);
        Check.due("count(9)", x.count(9), 2);
        Check.due("blank at the end", x.put(0, 59, 65), 1032);
        x.text(0, 60);
        Check.due("blanks anew", x.put(0, 59, 65), 1032);
        Check.refused(x, "text(0, 61)", () -> x.text(0, 61), BAD);
        Check.refused(x, "text(4, -1)", () -> x.text(4, -1), BAD);
        Check.refused(x, "text(-1, 0)", () -> x.text(-1, 0), BAD);
        Check.refusedBy(x, "text(0, -1)", () -> x.text(0, -1), SIZE);
        Check.due("count(9) at the end", x.count(9), 2);
    }

    private static void put() {
        BolsterBeds x = new BolsterBeds();
        x.text(1, 2);
        int[][] pairs = {{127, 127}, {128, -128}, {255, -1}, {256, 0}, {-129, 127}, {Integer.MIN_VALUE, 0}};
        int before = 32;
        for (int[] pair : pairs) {
            Check.due("put(1, 1, " + pair[0] + ")", x.put(1, 1, pair[0]), 1000 + before);
            before = pair[1];
        }
        Check.due("the last byte", x.put(1, 1, 0), 1000 + before);
        Check.due("put tells nothing by asked()", x.asked(), 0);
        Check.refused(x, "put(4, 0, 1)", () -> x.put(4, 0, 1), BAD);
        Check.refusedBy(x, "put(0, 0, 1)", () -> x.put(0, 0, 1), NOTHING);
        Check.refusedBy(x, "put(1, 2, 1)", () -> x.put(1, 2, 1), BEYOND);
        Check.refusedBy(x, "put(1, -1, 1)", () -> x.put(1, -1, 1), BEYOND);
    }
}
