/** Promises 1 to 7, sentence by sentence: the last number that is good, the first that is not, at both ends. */
public final class EdgesOfRowsTest {
    public static void main(String[] args) {
        newObject();
        rowNumbers();
        rowSizes();
        rowAnew();
        layPlaces();
        layValues();
        layRefused();
        atPlaces();
        atRefused();
        tear();
        copyPlaces();
        copyNone();
        copyAsIfTakenAhead();
        copyFullRows();
        copyRefused();
        copyBeyond();
        meanCut();
        meanLarge();
        meanRefused();
        Check.end("EdgesOfRowsTest");
    }

    /** Promise 1: "No ROWS, TEXTS, REACHES." */
    private static void newObject() {
        RiverDays x = new RiverDays();
        for (int what = 0; what <= 10; what++) {
            Call.due(x, "count(" + what + ")", 0);
        }
        for (int r = 0; r <= 5; r++) {
            Refused.finds(Refused.NOTHING, RiverDays::new, "tear(" + r + ")", "at(" + r + ", 0)");
        }
        for (int t = 0; t <= 3; t++) {
            Refused.finds(Refused.NOTHING, RiverDays::new, "fault(" + t + ")", "put(" + t + ", 0, 0)");
        }
        Refused.bad(RiverDays::new, "reach(0, 0)");
        Refused.state(RiverDays::new, "weekday(0, 0)");
    }

    /** "ROWS 0 .. 5" */
    private static void rowNumbers() {
        RiverDays x = new RiverDays();
        for (int r = 0; r <= 5; r++) {
            Call.due(x, "row(" + r + ", 2)", 2);
            Call.due(x, "count(8)", r + 1);
        }
        for (int r = 0; r <= 5; r++) {
            Call.due(x, "lay(" + r + ", 1, " + (r + 70) + ")", 1);
        }
        for (int r = 0; r <= 5; r++) {
            Make.isRow("row " + r, x, r, 0, r + 70);
        }
        Refused.bad(Stand.RICH, "row(-1, 2)", "row(6, 2)", "row(MIN, 2)", "row(MAX, 2)");
    }

    /** "rows of 0 to 40 ints"; "n ints 0: n. BAD: also n above 40; SIZE: below 0." */
    private static void rowSizes() {
        RiverDays x = new RiverDays();
        for (int n : new int[] {0, 1, 39, 40}) {
            Call.due(x, "row(3, " + n + ")", n);
            Make.isRow("row of " + n, x, 3, new int[n]);
        }
        Refused.bad(Stand.RICH, "row(0, 41)", "row(5, 41)", "row(0, MAX)");
        Refused.finds(Refused.SIZE, Stand.RICH, "row(0, -1)", "row(5, -1)", "row(0, MIN)");
    }

    /** A ROW that is there already comes anew with ints 0, longer or shorter. */
    private static void rowAnew() {
        RiverDays x = new RiverDays();
        Make.row(x, 2, 5, 6, 7);
        Make.row(x, 1, 8);
        Call.due(x, "row(2, 3)", 3);
        Make.isRow("as long", x, 2, 0, 0, 0);
        Make.row(x, 2, 5, 6, 7);
        Call.due(x, "row(2, 0)", 0);
        Make.isRow("empty", x, 2);
        Call.due(x, "row(2, 4)", 4);
        Make.isRow("longer: nothing is left of what was", x, 2, 0, 0, 0, 0);
        Make.isRow("another one stays", x, 1, 8);
        Call.due(x, "count(8)", 2);
    }

    /** "Place i of a ROW is v: what it was": the first and the last place. */
    private static void layPlaces() {
        RiverDays x = new RiverDays();
        x.row(4, 40);
        Call.due(x, "lay(4, 0, 11)", 1);
        Call.due(x, "lay(4, 39, 12)", 1);
        Call.due(x, "asked()", 0);
        Call.due(x, "lay(4, 0, 13)", 1);
        Call.due(x, "asked()", 11);
        Call.due(x, "lay(4, 39, 14)", 1);
        Call.due(x, "asked()", 12);
        int[] due = new int[40];
        due[0] = 13;
        due[39] = 14;
        Make.isRow("two places", x, 4, due);
    }

    private static void layValues() {
        RiverDays x = new RiverDays();
        x.row(0, 1);
        int[] values = {Integer.MIN_VALUE, -1, 0, 1, Integer.MAX_VALUE};
        int was = 0;
        for (int v : values) {
            Check.due("lay " + v, x.lay(0, 0, v), 1);
            Check.due("what it was", x.asked(), was);
            Check.due("what it is", Make.at(x, 0, 0), v);
            was = v;
        }
    }

    /** "BAD; NOTHING; BEYOND." of lay() */
    private static void layRefused() {
        Refused.bad(Stand.RICH, "lay(-1, 0, 7)", "lay(6, 0, 7)");
        Refused.finds(Refused.NOTHING, Stand.RICH, "lay(5, 0, 7)", "lay(5, -1, 7)", "lay(5, 40, 7)");
        Refused.finds(Refused.BEYOND, Stand.RICH, "lay(0, -1, 7)", "lay(0, 4, 7)", "lay(3, 0, 7)", "lay(0, MIN, 7)",
            "lay(0, MAX, 7)", "lay(1, 13, 7)");
        Refused.bad(RiverDays::new, "lay(6, 0, 7)");
    }

    /** "Place i of a ROW, told by asked(): 1." */
    private static void atPlaces() {
        RiverDays x = new RiverDays();
        x.row(0, 40);
        x.lay(0, 0, 21);
        x.lay(0, 39, 22);
        Call.due(x, "at(0, 0)", 1);
        Call.due(x, "asked()", 21);
        Call.due(x, "at(0, 39)", 1);
        Call.due(x, "asked()", 22);
        Call.due(x, "at(0, 38)", 1);
        Call.due(x, "asked()", 0);
        Call.due(x, "at(0, 40)", RiverDays.FINDING);
    }

    /** "BAD; NOTHING; BEYOND." of at() */
    private static void atRefused() {
        Refused.bad(Stand.RICH, "at(-1, 0)", "at(6, 0)");
        Refused.finds(Refused.NOTHING, Stand.RICH, "at(5, 0)", "at(5, -1)", "at(5, 40)");
        Refused.finds(Refused.BEYOND, Stand.RICH, "at(0, -1)", "at(0, 4)", "at(3, 0)", "at(0, MIN)", "at(0, MAX)",
            "at(1, 13)");
    }

    /** "A ROW is missing: 1. BAD; NOTHING." */
    private static void tear() {
        RiverDays x = new RiverDays();
        x.row(0, 0);
        x.row(5, 40);
        x.row(2, 1);
        Call.due(x, "tear(0)", 1);
        Call.due(x, "tear(5)", 1);
        Call.due(x, "count(8)", 1);
        Check.finds("torn", x, x.tear(0), Refused.NOTHING);
        Check.finds("torn", x, x.at(5, 0), Refused.NOTHING);
        Make.isRow("another one stays", x, 2, 0);
        Call.due(x, "row(5, 2)", 2);
        Make.isRow("there again", x, 5, 0, 0);
        Refused.bad(Stand.RICH, "tear(-1)", "tear(6)");
        Refused.finds(Refused.NOTHING, Stand.RICH, "tear(5)");
    }

    /** "n places of a ROW, from one on, come to those of another one (perhaps itself) from one on" */
    private static void copyPlaces() {
        RiverDays x = new RiverDays();
        Make.row(x, 0, 1, 2, 3);
        Make.row(x, 5, 7, 8, 9, 10);
        Call.due(x, "copy(0, 0, 5, 0, 1)", 1);
        Make.isRow("the first", x, 5, 1, 8, 9, 10);
        Call.due(x, "copy(0, 2, 5, 3, 1)", 1);
        Make.isRow("the last", x, 5, 1, 8, 9, 3);
        Call.due(x, "copy(0, 0, 5, 1, 3)", 1);
        Make.isRow("all of them", x, 5, 1, 1, 2, 3);
        Make.isRow("those stay", x, 0, 1, 2, 3);
        Call.due(x, "copy(0, 0, 0, 0, 3)", 1);
        Make.isRow("to themselves", x, 0, 1, 2, 3);
        Call.due(x, "asked()", 3);
    }

    /** n of 0: nothing comes, also from and to the end of a ROW, and of an empty one. */
    private static void copyNone() {
        RiverDays x = new RiverDays();
        Make.row(x, 0, 1, 2);
        x.row(1, 0);
        Call.due(x, "copy(0, 0, 0, 1, 0)", 1);
        Call.due(x, "copy(0, 2, 1, 0, 0)", 1);
        Call.due(x, "copy(1, 0, 0, 2, 0)", 1);
        Call.due(x, "copy(1, 0, 1, 0, 0)", 1);
        Make.isRow("as it was", x, 0, 1, 2);
        Make.isRow("empty", x, 1);
    }

    /** "as if taken ahead" */
    private static void copyAsIfTakenAhead() {
        RiverDays x = new RiverDays();
        Make.row(x, 0, 1, 2, 3, 4, 5);
        Call.due(x, "copy(0, 0, 0, 1, 4)", 1);
        Make.isRow("one place on", x, 0, 1, 1, 2, 3, 4);
        Make.row(x, 0, 1, 2, 3, 4, 5);
        Call.due(x, "copy(0, 1, 0, 0, 4)", 1);
        Make.isRow("one place back", x, 0, 2, 3, 4, 5, 5);
        Make.row(x, 0, 1, 2, 3, 4, 5);
        Call.due(x, "copy(0, 0, 0, 2, 3)", 1);
        Make.isRow("two places on", x, 0, 1, 2, 1, 2, 3);
    }

    private static void copyFullRows() {
        RiverDays x = new RiverDays();
        x.row(0, 40);
        x.row(1, 40);
        x.lay(0, 0, 5);
        x.lay(0, 39, 6);
        Call.due(x, "copy(0, 0, 1, 0, 40)", 1);
        Check.due("the first", Make.at(x, 1, 0), 5);
        Check.due("the last", Make.at(x, 1, 39), 6);
        Check.finds("41", x, x.copy(0, 0, 1, 0, 41), Refused.BEYOND);
    }

    /** "BAD; SIZE: n below 0; NOTHING: either" */
    private static void copyRefused() {
        Refused.bad(Stand.RICH, "copy(-1, 0, 0, 0, 1)", "copy(6, 0, 0, 0, 1)", "copy(0, 0, -1, 0, 1)",
            "copy(0, 0, 6, 0, 1)", "copy(6, 0, 6, 0, 0)");
        Refused.finds(Refused.SIZE, Stand.RICH, "copy(0, 0, 2, 0, -1)", "copy(0, 0, 0, 0, MIN)",
            "copy(5, 0, 0, 0, -1)", "copy(0, 0, 5, 0, -1)", "copy(0, 9, 0, 0, -1)", "copy(0, 0, 0, -1, -1)");
        Refused.finds(Refused.NOTHING, Stand.RICH, "copy(5, 0, 0, 0, 1)", "copy(0, 0, 5, 0, 1)", "copy(5, 9, 0, 0, 1)",
            "copy(0, 9, 5, 0, 1)", "copy(5, 0, 0, -1, 0)", "copy(5, 0, 5, 0, 0)");
    }

    /** "BEYOND: not so many there." ROW 0 has 4 places, 2 has 2, 3 none. */
    private static void copyBeyond() {
        Refused.finds(Refused.BEYOND, Stand.RICH, "copy(0, 0, 1, 0, 5)", "copy(0, 3, 1, 0, 2)", "copy(0, 4, 1, 0, 1)",
            "copy(0, -1, 1, 0, 1)", "copy(0, 0, 2, 0, 3)", "copy(0, 0, 2, 1, 2)", "copy(0, 0, 2, 2, 1)",
            "copy(0, 0, 2, -1, 1)", "copy(3, 0, 0, 0, 1)", "copy(0, 0, 3, 0, 1)", "copy(0, 5, 0, 0, 0)",
            "copy(0, 0, 0, 5, 0)", "copy(0, -1, 0, 0, 0)", "copy(0, 0, 0, -1, 0)", "copy(0, MAX, 0, 0, MAX)",
            "copy(0, 0, 0, MAX, 1)", "copy(0, MIN, 0, 0, 1)", "copy(0, 1, 0, 1, MAX)", "copy(0, 0, 0, MIN, MAX)");
    }

    private static void mean(int due, int... values) {
        RiverDays x = new RiverDays();
        Make.row(x, 5, values);
        Call.due(x, "mean(5)", 1);
        Check.due("mean of " + values.length, x.asked(), due);
        Make.isRow("the row stays", x, 5, values);
    }

    /** "The mean of a ROW's ints, cut" */
    private static void meanCut() {
        mean(0, 0);
        mean(-1, -1);
        mean(0, 0, 1);
        mean(0, 0, -1);
        mean(1, 1, 2);
        mean(-1, -1, -2);
        mean(2, 2, 3, 3);
        mean(-2, -2, -3, -3);
        mean(3, 3, 3, 3);
        mean(0, 5, -5);
        mean(0, -2, 1);
    }

    private static void meanLarge() {
        int[] most = new int[40];
        int[] least = new int[40];
        for (int i = 0; i < 40; i++) {
            most[i] = Integer.MAX_VALUE;
            least[i] = Integer.MIN_VALUE;
        }
        mean(Integer.MAX_VALUE, most);
        mean(Integer.MIN_VALUE, least);
        mean(0, Integer.MAX_VALUE, Integer.MIN_VALUE);
        mean(Integer.MAX_VALUE - 1, Integer.MAX_VALUE, Integer.MAX_VALUE - 1);
    }

    /** "BAD; NOTHING; NOUGHT." */
    private static void meanRefused() {
        Refused.bad(Stand.RICH, "mean(-1)", "mean(6)");
        Refused.finds(Refused.NOTHING, Stand.RICH, "mean(5)");
        Refused.finds(Refused.NOUGHT, Stand.RICH, "mean(3)");
    }
}
