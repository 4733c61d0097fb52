/** Promises 2 to 7: row, lay, at, tear, copy, mean. */
public final class RowsTest {
    public static void main(String[] args) {
        row();
        layAndAt();
        tear();
        copy();
        copyRefused();
        mean();
        Check.end("RowsTest");
    }

    private static void row() {
        RiverDays x = new RiverDays();
        Check.due("row 3", x.row(0, 3), 3);
        Make.isRow("a new row", x, 0, 0, 0, 0);
        Check.due("row 0", x.row(5, 0), 0);
        Check.finds("an empty row", x, x.at(5, 0), 2);
        Check.due("row 40", x.row(1, 40), 40);
        Check.due("last place", x.at(1, 39), 1);
        Check.due("rows", x.count(8), 3);
        Check.due("row 41", x.row(1, 41), RiverDays.BAD);
        Check.due("row below", x.row(-1, 3), RiverDays.BAD);
        Check.due("row above", x.row(6, 3), RiverDays.BAD);
        Check.due("no row, fewer than none", x.row(6, -3), RiverDays.BAD);
        Check.due("row most", x.row(0, Integer.MAX_VALUE), RiverDays.BAD);
        Check.finds("row -1", x, x.row(1, -1), 5);
        Check.finds("row least", x, x.row(2, Integer.MIN_VALUE), 5);
        Check.due("refused rows change nothing", x.at(1, 39), 1);
        Check.finds("row 2 is not there", x, x.at(2, 0), 1);
        x.lay(0, 1, 7);
        Check.due("anew", x.row(0, 2), 2);
        Make.isRow("a row made anew", x, 0, 0, 0);
    }

    private static void layAndAt() {
        RiverDays x = new RiverDays();
        x.row(3, 2);
        Check.due("lay", x.lay(3, 1, -5), 1);
        Check.due("was", x.asked(), 0);
        Check.due("lay again", x.lay(3, 1, Integer.MIN_VALUE), 1);
        Check.due("was", x.asked(), -5);
        Check.due("at", x.at(3, 1), 1);
        Check.due("is", x.asked(), Integer.MIN_VALUE);
        Check.due("at 0", x.at(3, 0), 1);
        Check.due("is", x.asked(), 0);
        x.lay(3, 1, 8);
        Check.due("lay, no row", x.lay(6, 0, 1), RiverDays.BAD);
        Check.due("lay, no row", x.lay(-1, 0, 1), RiverDays.BAD);
        Check.due("at, no row", x.at(6, 0), RiverDays.BAD);
        Check.due("at, no row", x.at(-1, -1), RiverDays.BAD);
        Check.finds("lay, missing", x, x.lay(0, 0, 1), 1);
        Check.finds("at, missing ahead of beyond", x, x.at(0, 99), 1);
        Check.finds("lay beyond", x, x.lay(3, 2, 1), 2);
        Check.finds("lay ahead", x, x.lay(3, -1, 1), 2);
        Check.finds("at beyond", x, x.at(3, 2), 2);
        Check.finds("at ahead", x, x.at(3, Integer.MIN_VALUE), 2);
        Check.due("asked stays", x.asked(), Integer.MIN_VALUE);
        Make.isRow("row", x, 3, 0, 8);
    }

    private static void tear() {
        RiverDays x = new RiverDays();
        x.row(2, 4);
        Check.due("tear", x.tear(2), 1);
        Check.due("rows", x.count(8), 0);
        Check.finds("torn", x, x.tear(2), 1);
        Check.finds("torn", x, x.at(2, 0), 1);
        Check.due("tear none", x.tear(6), RiverDays.BAD);
        Check.due("tear none", x.tear(-1), RiverDays.BAD);
        x.row(2, 0);
        Check.due("tear an empty one", x.tear(2), 1);
    }

    private static void copy() {
        RiverDays x = new RiverDays();
        Make.row(x, 0, 1, 2, 3, 4, 5);
        Make.row(x, 1, 9, 9, 9);
        Check.due("copy", x.copy(0, 1, 1, 0, 2), 1);
        Make.isRow("to another", x, 1, 2, 3, 9);
        Check.due("copy down itself", x.copy(0, 0, 0, 1, 4), 1);
        Make.isRow("as if taken ahead", x, 0, 1, 1, 2, 3, 4);
        Make.row(x, 0, 1, 2, 3, 4, 5);
        Check.due("copy up itself", x.copy(0, 2, 0, 0, 3), 1);
        Make.isRow("as if taken ahead", x, 0, 3, 4, 5, 4, 5);
        Check.due("copy none, at the end", x.copy(0, 5, 1, 3, 0), 1);
        Check.due("copy all", x.copy(1, 0, 0, 2, 3), 1);
        Make.isRow("all", x, 0, 3, 4, 2, 3, 9);
    }

    private static void copyRefused() {
        RiverDays x = new RiverDays();
        Make.row(x, 0, 1, 2, 3);
        Make.row(x, 1, 7, 8);
        Check.due("no row", x.copy(6, 0, 0, 0, -1), RiverDays.BAD);
        Check.due("no row", x.copy(0, 0, -1, 0, 1), RiverDays.BAD);
        Check.finds("fewer than none, ahead of missing", x, x.copy(2, 0, 0, 0, -1), 5);
        Check.finds("from missing", x, x.copy(2, 0, 0, 0, 1), 1);
        Check.finds("to missing, ahead of beyond", x, x.copy(0, 5, 2, 0, 1), 1);
        Check.finds("not so many from", x, x.copy(0, 2, 1, 0, 2), 2);
        Check.finds("not so many to", x, x.copy(0, 0, 1, 1, 2), 2);
        Check.finds("ahead of the first", x, x.copy(0, -1, 1, 0, 1), 2);
        Check.finds("ahead of the first", x, x.copy(0, 0, 1, -1, 1), 2);
        Check.finds("beyond, none", x, x.copy(0, 4, 1, 0, 0), 2);
        Check.finds("beyond, none", x, x.copy(0, 0, 1, 3, 0), 2);
        Check.finds("far", x, x.copy(0, Integer.MAX_VALUE, 1, 0, 1), 2);
        Check.finds("many", x, x.copy(0, 1, 1, 1, Integer.MAX_VALUE), 2);
        Check.finds("far, to", x, x.copy(0, 0, 1, Integer.MAX_VALUE, 2), 2);
        Make.isRow("from", x, 0, 1, 2, 3);
        Make.isRow("to", x, 1, 7, 8);
    }

    private static void mean() {
        RiverDays x = new RiverDays();
        Make.row(x, 0, 3, 4, 4);
        Check.due("mean", x.mean(0), 1);
        Check.due("cut", x.asked(), 3);
        Make.row(x, 0, -3, -4);
        Check.due("mean", x.mean(0), 1);
        Check.due("cut below nought", x.asked(), -3);
        Make.row(x, 0, Integer.MAX_VALUE, Integer.MAX_VALUE, Integer.MAX_VALUE);
        Check.due("mean", x.mean(0), 1);
        Check.due("large", x.asked(), Integer.MAX_VALUE);
        Make.row(x, 0, Integer.MIN_VALUE, Integer.MIN_VALUE);
        Check.due("mean", x.mean(0), 1);
        Check.due("small", x.asked(), Integer.MIN_VALUE);
        Make.row(x, 0, -7);
        Check.due("mean", x.mean(0), 1);
        Check.due("of one", x.asked(), -7);
        Make.row(x, 0, Integer.MIN_VALUE, Integer.MIN_VALUE);
        Check.due("mean", x.mean(0), 1);
        x.row(1, 0);
        Check.finds("among none", x, x.mean(1), 4);
        Check.finds("missing", x, x.mean(2), 1);
        Check.due("no row", x.mean(6), RiverDays.BAD);
        Check.due("no row", x.mean(-1), RiverDays.BAD);
        Check.due("asked stays", x.asked(), Integer.MIN_VALUE);
    }
}
