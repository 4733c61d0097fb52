/** Makes objects, texts and rows for the tests. */
final class Make {
    /** The river of the shared tests: every KIND once. */
    static final String EVERY_KIND = "y5203140o0123456 w47m33p58s29f42a10";

    private Make() {
    }

    static void text(RiverDays x, int t, String signs) {
        x.text(t, signs.length());
        for (int i = 0; i < signs.length(); i++) {
            x.put(t, i, signs.charAt(i));
        }
    }

    static RiverDays river(String signs) {
        RiverDays x = new RiverDays();
        text(x, 0, signs);
        Check.due("fault of " + signs, x.fault(0), RiverDays.NONE);
        Check.isTrue("river of " + signs, x.river(0) > 0);
        return x;
    }

    static void row(RiverDays x, int r, int... values) {
        Check.due("row", x.row(r, values.length), values.length);
        for (int i = 0; i < values.length; i++) {
            Check.due("lay", x.lay(r, i, values[i]), 1);
        }
    }

    /** A REACH's number, by reach() and asked(). */
    static int of(RiverDays x, int i, int what) {
        Check.due("reach", x.reach(i, what), 1);
        return x.asked();
    }

    /** A ROW's place, by at() and asked(). */
    static int at(RiverDays x, int r, int i) {
        Check.due("at", x.at(r, i), 1);
        return x.asked();
    }

    static void isRow(String what, RiverDays x, int r, int... values) {
        for (int i = 0; i < values.length; i++) {
            Check.due(what + ", place " + i, at(x, r, i), values[i]);
        }
        Check.finds(what + ", size", x, x.at(r, values.length), 2);
    }

    static void fraction(String what, RiverDays x, long upper, long lower) {
        Check.due(what + ", upper", x.upper(), upper);
        Check.due(what + ", lower", x.lower(), lower);
    }
}
