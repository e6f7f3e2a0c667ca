import java.util.Arrays;

/** Promises 1 to 9: a new object, rows, texts. */
public final class RowsTest {
    private static final int BAD = BolsterBeds.BAD;
    private static final int NOTHING = 1, BEYOND = 2, NOUGHT = 4, SIZE = 5;
    private static final int LEAST = Integer.MIN_VALUE, GREATEST = Integer.MAX_VALUE;

    public static void main(String[] args) {
        newObject();
        row();
        rowRefused();
        lay();
        layRefused();
        at();
        tear();
        copy();
        copyRefused();
        copyInThisOrder();
        mean();
        text();
        put();
        Check.end("RowsTest");
    }

    private static void newObject() {
        Check.promise(1, "No ROWS, TEXTS, BEDS.");
        BolsterBeds x = new BolsterBeds();
        for (int what = 0; what <= 10; what++) {
            Check.due("count(" + what + ")", x.count(what), 0);
        }
        Check.due("bed(0, 0)", x.bed(0, 0), BAD);
        Check.promise(1, "or missing (at first)");
        for (int r = 0; r <= 5; r++) {
            int number = r;
            Check.finding(x, "tear(" + r + ")", () -> x.tear(number), NOTHING);
        }
        for (int t = 0; t <= 3; t++) {
            int number = t;
            Check.finding(x, "fault(" + t + ")", () -> x.fault(number), NOTHING);
        }
        for (int k = 0; k <= 2; k++) {
            int number = k;
            Check.finding(x, "on(" + k + ")", () -> x.on(number), NOTHING);
        }
    }

    private static void row() {
        Check.promise(2, "A ROW is there with n ints 0: n.");
        BolsterBeds x = new BolsterBeds();
        Check.due("row(2, 3)", x.row(2, 3), 3);
        Check.rowIs(x, "three", 2, 0, 0, 0);
        Check.due("the other ones are missing", x.count(8), 1);
        x.lay(2, 1, 7);
        Check.due("row(2, 1)", x.row(2, 1), 1);
        Check.due("row(2, 2)", x.row(2, 2), 2);
        Check.rowIs(x, "smaller, then greater: anew", 2, 0, 0);
        x.lay(2, 0, 7);
        x.row(2, 2);
        Check.rowIs(x, "as great: anew", 2, 0, 0);
        Check.promise(2, "ROWS 0 .. 5 are rows of 0 to 40 ints");
        for (int r = 0; r <= 5; r++) {
            Check.due("row(" + r + ", 40)", x.row(r, 40), 40);
            Check.due("lay(" + r + ", 39, 7)", x.lay(r, 39, r + 7), 1);
        }
        for (int r = 0; r <= 5; r++) {
            x.at(r, 39);
            Check.due("place 39 of row " + r, x.asked(), r + 7);
            x.at(r, 0);
            Check.due("place 0 of row " + r, x.asked(), 0);
        }
        for (int r = 0; r <= 5; r++) {
            int number = r;
            Check.due("row(" + r + ", 0)", x.row(r, 0), 0);
            Check.finding(x, "at(" + r + ", 0) of an empty one", () -> x.at(number, 0), BEYOND);
        }
        Check.due("empty ones are there", x.count(8), 6);
    }

    private static void rowRefused() {
        BolsterBeds x = new BolsterBeds();
        Check.row(x, 0, 3, 4);
        Check.promise(2, "BAD: also n above 40");
        Check.refused(x, "row(0, 41)", () -> x.row(0, 41), BAD);
        Check.refused(x, "row(1, 41)", () -> x.row(1, 41), BAD);
        Check.refused(x, "row(0, greatest)", () -> x.row(0, GREATEST), BAD);
        Check.refused(x, "row(-1, 1)", () -> x.row(-1, 1), BAD);
        Check.refused(x, "row(6, 1)", () -> x.row(6, 1), BAD);
        Check.refused(x, "row(least, 1)", () -> x.row(LEAST, 1), BAD);
        Check.refused(x, "row(greatest, 1)", () -> x.row(GREATEST, 1), BAD);
        Check.refused(x, "row(6, -1): BAD ahead of SIZE", () -> x.row(6, -1), BAD);
        Check.refused(x, "row(-1, -1): BAD ahead of SIZE", () -> x.row(-1, -1), BAD);
        Check.promise(2, "SIZE: below 0.");
        Check.refusedBy(x, "row(0, -1)", () -> x.row(0, -1), SIZE);
        Check.refusedBy(x, "row(1, least)", () -> x.row(1, LEAST), SIZE);
        Check.rowIs(x, "the row stays", 0, 3, 4);
        Check.due("row 1 is missing still", x.count(8), 1);
    }

    private static void lay() {
        Check.promise(3, "Place i of a ROW is v: what it was, told by asked(): 1.");
        BolsterBeds x = new BolsterBeds();
        x.row(2, 3);
        x.row(3, 3);
        Check.due("lay(2, 0, least)", x.lay(2, 0, LEAST), 1);
        Check.due("it was 0", x.asked(), 0);
        Check.due("lay(2, 0, greatest)", x.lay(2, 0, GREATEST), 1);
        Check.due("it was the least", x.asked(), LEAST);
        Check.due("lay(2, 0, 5)", x.lay(2, 0, 5), 1);
        Check.due("it was the greatest", x.asked(), GREATEST);
        Check.due("lay(2, 2, -9)", x.lay(2, 2, -9), 1);
        Check.rowIs(x, "laid", 2, 5, 0, -9);
        Check.rowIs(x, "another one", 3, 0, 0, 0);
    }

    private static void layRefused() {
        BolsterBeds x = new BolsterBeds();
        Check.row(x, 2, 5, 6, 7);
        Check.promise(3, "BAD");
        Check.refused(x, "lay(6, 0, 1)", () -> x.lay(6, 0, 1), BAD);
        Check.refused(x, "lay(-1, 0, 1)", () -> x.lay(-1, 0, 1), BAD);
        Check.refused(x, "lay(-1, -1, 1): BAD ahead of BEYOND", () -> x.lay(-1, -1, 1), BAD);
        Check.promise(3, "NOTHING");
        Check.refusedBy(x, "lay(0, 0, 1)", () -> x.lay(0, 0, 1), NOTHING);
        Check.refusedBy(x, "lay(5, 0, 1)", () -> x.lay(5, 0, 1), NOTHING);
        Check.refusedBy(x, "lay(3, -1, 1): NOTHING ahead of BEYOND", () -> x.lay(3, -1, 1), NOTHING);
        Check.promise(3, "BEYOND.");
        Check.refusedBy(x, "lay(2, 3, 1)", () -> x.lay(2, 3, 1), BEYOND);
        Check.refusedBy(x, "lay(2, -1, 1)", () -> x.lay(2, -1, 1), BEYOND);
        Check.refusedBy(x, "lay(2, greatest, 1)", () -> x.lay(2, GREATEST, 1), BEYOND);
        Check.refusedBy(x, "lay(2, least, 1)", () -> x.lay(2, LEAST, 1), BEYOND);
        x.row(2, 0);
        Check.refusedBy(x, "lay(2, 0, 1) of an empty one", () -> x.lay(2, 0, 1), BEYOND);
    }

    private static void at() {
        Check.promise(4, "Place i of a ROW, told by asked(): 1.");
        BolsterBeds x = new BolsterBeds();
        Check.row(x, 0, 8);
        Check.row(x, 5, LEAST, -1, GREATEST);
        int[] due = {LEAST, -1, GREATEST};
        for (int i = 0; i < 3; i++) {
            Check.due("at(5, " + i + ")", x.at(5, i), 1);
            Check.due("place " + i, x.asked(), due[i]);
        }
        x.at(0, 0);
        Check.promise(4, "BAD");
        Check.refused(x, "at(6, 0)", () -> x.at(6, 0), BAD);
        Check.refused(x, "at(-1, 0)", () -> x.at(-1, 0), BAD);
        Check.refused(x, "at(6, -1): BAD ahead of BEYOND", () -> x.at(6, -1), BAD);
        Check.promise(4, "NOTHING");
        Check.refusedBy(x, "at(1, 0)", () -> x.at(1, 0), NOTHING);
        Check.refusedBy(x, "at(1, -1): NOTHING ahead of BEYOND", () -> x.at(1, -1), NOTHING);
        Check.promise(4, "BEYOND.");
        Check.refusedBy(x, "at(5, 3)", () -> x.at(5, 3), BEYOND);
        Check.refusedBy(x, "at(5, -1)", () -> x.at(5, -1), BEYOND);
        Check.refusedBy(x, "at(0, 1)", () -> x.at(0, 1), BEYOND);
        Check.refusedBy(x, "at(5, greatest)", () -> x.at(5, GREATEST), BEYOND);
        Check.refusedBy(x, "at(5, least)", () -> x.at(5, LEAST), BEYOND);
    }

    private static void tear() {
        Check.promise(5, "A ROW is missing: 1.");
        BolsterBeds x = new BolsterBeds();
        x.row(4, 2);
        x.row(5, 0);
        x.row(0, 1);
        Check.due("tear(4)", x.tear(4), 1);
        Check.due("tear(5), an empty one", x.tear(5), 1);
        Check.due("one is there", x.count(8), 1);
        Check.finding(x, "at(4, 0)", () -> x.at(4, 0), NOTHING);
        Check.due("row 0 stays", x.at(0, 0), 1);
        Check.promise(5, "BAD; NOTHING.");
        Check.refusedBy(x, "tear(4) again", () -> x.tear(4), NOTHING);
        Check.refusedBy(x, "tear(3)", () -> x.tear(3), NOTHING);
        Check.refused(x, "tear(6)", () -> x.tear(6), BAD);
        Check.refused(x, "tear(-1)", () -> x.tear(-1), BAD);
    }

    private static void copy() {
        Check.promise(6, "n places of a ROW, from one on, come to those of another one");
        BolsterBeds x = new BolsterBeds();
        Check.row(x, 0, 1, 2, 3, 4);
        Check.row(x, 1, 9, 9, 9);
        Check.due("copy(0, 1, 1, 0, 3)", x.copy(0, 1, 1, 0, 3), 1);
        Check.rowIs(x, "copied", 1, 2, 3, 4);
        Check.rowIs(x, "copied from", 0, 1, 2, 3, 4);
        Check.row(x, 5, 6, 7);
        Check.due("copy(5, 0, 1, 1, 2)", x.copy(5, 0, 1, 1, 2), 1);
        Check.rowIs(x, "from the last row", 1, 2, 6, 7);
        Check.due("copy(1, 0, 5, 1, 1)", x.copy(1, 0, 5, 1, 1), 1);
        Check.rowIs(x, "to the last row", 5, 6, 2);
        x.row(2, 40);
        x.row(3, 40);
        x.lay(2, 0, 8);
        x.lay(2, 39, 9);
        Check.due("copy of a whole row", x.copy(2, 0, 3, 0, 40), 1);
        x.at(3, 0);
        Check.due("its first place", x.asked(), 8);
        x.at(3, 39);
        Check.due("its last place", x.asked(), 9);
        Check.promise(6, "(perhaps itself) from one on, as if taken ahead: 1.");
        Check.due("up itself", x.copy(0, 0, 0, 1, 3), 1);
        Check.rowIs(x, "up itself", 0, 1, 1, 2, 3);
        Check.row(x, 0, 1, 2, 3, 4);
        Check.due("down itself", x.copy(0, 1, 0, 0, 3), 1);
        Check.rowIs(x, "down itself", 0, 2, 3, 4, 4);
        Check.due("to where it is", x.copy(0, 1, 0, 1, 3), 1);
        Check.rowIs(x, "to where it is", 0, 2, 3, 4, 4);
        Check.due("it tells nothing by asked()", x.asked(), 4);
    }

    private static void copyRefused() {
        BolsterBeds x = new BolsterBeds();
        Check.row(x, 0, 1, 2, 3);
        Check.row(x, 1, 4, 5);
        Check.promise(6, "BEYOND: not so many there");
        Check.due("2 from 1", x.copy(0, 1, 1, 0, 2), 1);
        Check.refusedBy(x, "2 from 2", () -> x.copy(0, 2, 1, 0, 2), BEYOND);
        Check.refusedBy(x, "2 to 1", () -> x.copy(0, 0, 1, 1, 2), BEYOND);
        Check.refusedBy(x, "1 from -1", () -> x.copy(0, -1, 1, 0, 1), BEYOND);
        Check.refusedBy(x, "1 to -1", () -> x.copy(0, 0, 1, -1, 1), BEYOND);
        Check.refusedBy(x, "the greatest number", () -> x.copy(0, 1, 1, 1, GREATEST), BEYOND);
        Check.refusedBy(x, "from the greatest place", () -> x.copy(0, GREATEST, 1, 0, 1), BEYOND);
        Check.refusedBy(x, "to the greatest place", () -> x.copy(0, 0, 1, GREATEST, 1), BEYOND);
        Check.refusedBy(x, "from the least place", () -> x.copy(0, LEAST, 1, 0, 1), BEYOND);
        BolsterBeds y = new BolsterBeds();
        Check.row(y, 0, 1, 2, 3);
        Check.row(y, 1, 4, 5);
        Check.promise(6, "(also with n 0, if i, j is below 0, or above its size)");
        Check.due("0 from 0", y.copy(0, 0, 1, 0, 0), 1);
        Check.due("0 from the end to the end", y.copy(0, 3, 1, 2, 0), 1);
        Check.rowIs(y, "0 are copied", 1, 4, 5);
        Check.refusedBy(y, "0 from -1", () -> y.copy(0, -1, 1, 0, 0), BEYOND);
        Check.refusedBy(y, "0 to -1", () -> y.copy(0, 0, 1, -1, 0), BEYOND);
        Check.refusedBy(y, "0 from 4", () -> y.copy(0, 4, 1, 0, 0), BEYOND);
        Check.refusedBy(y, "0 to 3", () -> y.copy(0, 0, 1, 3, 0), BEYOND);
        Check.refusedBy(y, "0 from the greatest", () -> y.copy(0, GREATEST, 1, 0, 0), BEYOND);
        y.row(2, 0);
        Check.due("0 of an empty one to it", y.copy(2, 0, 2, 0, 0), 1);
        Check.refusedBy(y, "0 of an empty one from 1", () -> y.copy(2, 1, 0, 0, 0), BEYOND);
    }

    private static void copyInThisOrder() {
        BolsterBeds x = new BolsterBeds();
        Check.row(x, 0, 1, 2, 3);
        Check.row(x, 1, 4, 5);
        Check.promise(6, "BAD");
        Check.refused(x, "from 6", () -> x.copy(6, 0, 0, 0, 1), BAD);
        Check.refused(x, "from -1", () -> x.copy(-1, 0, 0, 0, 1), BAD);
        Check.refused(x, "to 6", () -> x.copy(0, 0, 6, 0, 1), BAD);
        Check.refused(x, "to -1", () -> x.copy(0, 0, -1, 0, 1), BAD);
        Check.promise(6, "SIZE: n below 0");
        Check.refusedBy(x, "-1", () -> x.copy(0, 0, 1, 0, -1), SIZE);
        Check.refusedBy(x, "the least", () -> x.copy(0, 0, 1, 0, LEAST), SIZE);
        Check.promise(6, "NOTHING: either");
        Check.refusedBy(x, "from a missing one", () -> x.copy(2, 0, 0, 0, 1), NOTHING);
        Check.refusedBy(x, "to a missing one", () -> x.copy(0, 0, 2, 0, 1), NOTHING);
        Check.refusedBy(x, "a missing one to itself", () -> x.copy(2, 0, 2, 0, 0), NOTHING);
        Check.promise(6, "(In this order.)");
        Check.refused(x, "BAD ahead of SIZE", () -> x.copy(6, 0, 0, 0, -1), BAD);
        Check.refused(x, "BAD ahead of NOTHING", () -> x.copy(2, 0, 6, 0, 1), BAD);
        Check.refusedBy(x, "SIZE ahead of NOTHING", () -> x.copy(2, 0, 0, 0, -1), SIZE);
        Check.refusedBy(x, "SIZE ahead of BEYOND", () -> x.copy(0, -1, 1, 9, -1), SIZE);
        Check.refusedBy(x, "NOTHING ahead of BEYOND: to", () -> x.copy(0, 9, 2, 0, 1), NOTHING);
        Check.refusedBy(x, "NOTHING ahead of BEYOND: from", () -> x.copy(2, -1, 0, 9, 1), NOTHING);
    }

    private static void means(int due, int... values) {
        BolsterBeds x = new BolsterBeds();
        Check.row(x, 5, values);
        Check.due("mean(5)", x.mean(5), 1);
        Check.due("mean of " + values.length + " from " + values[0] + " on", x.asked(), due);
    }

    private static void mean() {
        Check.promise(7, "The mean of a ROW's ints, cut, told by asked(): 1.");
        means(1, 1, 2, 2);
        means(2, 1, 2, 2, 3);
        means(-1, -1, -2, -2);
        means(0, -1, 0);
        means(-6, -6);
        means(GREATEST, GREATEST, GREATEST, GREATEST);
        means(LEAST, LEAST, LEAST);
        means(0, LEAST, GREATEST);
        int[] forty = new int[40];
        Arrays.fill(forty, GREATEST);
        forty[39] = GREATEST - 40;
        means(GREATEST - 1, forty);
        BolsterBeds x = new BolsterBeds();
        x.row(1, 0);
        Check.promise(7, "BAD");
        Check.refused(x, "mean(6)", () -> x.mean(6), BAD);
        Check.refused(x, "mean(-1)", () -> x.mean(-1), BAD);
        Check.promise(7, "NOTHING");
        Check.refusedBy(x, "mean(2)", () -> x.mean(2), NOTHING);
        Check.promise(7, "NOUGHT.");
        Check.refusedBy(x, "mean(1)", () -> x.mean(1), NOUGHT);
    }

    private static void text() {
        Check.promise(8, "A TEXT is there with n blanks: n.");
        BolsterBeds x = new BolsterBeds();
        Check.due("text(1, 3)", x.text(1, 3), 3);
        for (int i = 0; i < 3; i++) {
            Check.due("a blank at " + i, x.put(1, i, 65), 1032);
        }
        x.text(1, 1);
        x.text(1, 3);
        Check.due("a blank anew", x.put(1, 2, 66), 1032);
        Check.due("the others are missing", x.count(9), 1);
        Check.promise(8, "TEXTS 0 .. 3 rows of 0 to 60 bytes");
        for (int t = 0; t <= 3; t++) {
            Check.due("text(" + t + ", 60)", x.text(t, 60), 60);
            Check.due("place 59 of text " + t, x.put(t, 59, 65 + t), 1032);
        }
        for (int t = 0; t <= 3; t++) {
            Check.due("place 59 of text " + t, x.put(t, 59, 0), 1065 + t);
            Check.due("place 0 of text " + t, x.put(t, 0, 0), 1032);
        }
        Check.due("text(3, 0)", x.text(3, 0), 0);
        Check.due("four are there", x.count(9), 4);
        BolsterBeds y = new BolsterBeds();
        Check.write(y, 0, "abc");
        Check.promise(8, "BAD: also n above 60");
        Check.refused(y, "text(0, 61)", () -> y.text(0, 61), BAD);
        Check.refused(y, "text(0, greatest)", () -> y.text(0, GREATEST), BAD);
        Check.refused(y, "text(4, 1)", () -> y.text(4, 1), BAD);
        Check.refused(y, "text(-1, 1)", () -> y.text(-1, 1), BAD);
        Check.refused(y, "text(4, -1): BAD ahead of SIZE", () -> y.text(4, -1), BAD);
        Check.promise(8, "SIZE: below 0.");
        Check.refusedBy(y, "text(0, -1)", () -> y.text(0, -1), SIZE);
        Check.refusedBy(y, "text(1, least)", () -> y.text(1, LEAST), SIZE);
        Check.due("the text stays", y.put(0, 2, 0), 1000 + 'c');
    }

    private static void put() {
        Check.promise(9, "Byte i of a TEXT is v, cut to a byte (-128 .. 127): what it was, and 1000 more.");
        BolsterBeds x = new BolsterBeds();
        x.text(1, 2);
        int[][] pairs = {{127, 127}, {128, -128}, {-128, -128}, {-129, 127}, {255, -1}, {256, 0}, {-1, -1}, {354, 98},
            {LEAST, 0}, {GREATEST, -1}};
        int before = 32;
        for (int[] pair : pairs) {
            Check.due("put(1, 1, " + pair[0] + ")", x.put(1, 1, pair[0]), 1000 + before);
            before = pair[1];
        }
        Check.due("the last byte", x.put(1, 1, 0), 1000 + before);
        Check.due("the other byte", x.put(1, 0, 0), 1032);
        Check.due("it tells nothing by asked()", x.asked(), 0);
        Check.promise(9, "BAD");
        Check.refused(x, "put(4, 0, 1)", () -> x.put(4, 0, 1), BAD);
        Check.refused(x, "put(-1, 0, 1)", () -> x.put(-1, 0, 1), BAD);
        Check.refused(x, "put(4, -1, 1): BAD ahead of BEYOND", () -> x.put(4, -1, 1), BAD);
        Check.promise(9, "NOTHING");
        Check.refusedBy(x, "put(0, 0, 1)", () -> x.put(0, 0, 1), NOTHING);
        Check.refusedBy(x, "put(0, -1, 1): NOTHING ahead of BEYOND", () -> x.put(0, -1, 1), NOTHING);
        Check.promise(9, "BEYOND.");
        Check.refusedBy(x, "put(1, 2, 1)", () -> x.put(1, 2, 1), BEYOND);
        Check.refusedBy(x, "put(1, -1, 1)", () -> x.put(1, -1, 1), BEYOND);
        Check.refusedBy(x, "put(1, greatest, 1)", () -> x.put(1, GREATEST, 1), BEYOND);
        x.text(1, 0);
        Check.refusedBy(x, "put(1, 0, 1) of an empty one", () -> x.put(1, 0, 1), BEYOND);
    }
}
