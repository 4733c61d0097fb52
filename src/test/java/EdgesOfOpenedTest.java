import java.util.List;
import java.util.function.Supplier;

/** Promises 32 to 35, sentence by sentence: ways, first, kinds, measures. */
public final class EdgesOfOpenedTest {
    private static final String NO_RAIN = "y0000000o0000000";
    /** What a REACH that is never SHUT shows: a WEIR, a MILL, a FAIR as a REACH. */
    private static final int ALL_RUNS = 1 | 2 | 4 | 32, POND = 8, SLUICE = 16;

    public static void main(String[] args) {
        waysSizes();
        waysNumbers();
        waysMost();
        waysShutInAll();
        waysLower();
        waysFromThisDay();
        waysRefused();
        firstRow();
        firstInOrder();
        firstCounts();
        firstNone();
        firstToItself();
        firstRefused();
        kindsSizes();
        kindsNumbers();
        kindsOfReaches();
        kindsOfPonds();
        kindsOfSluices();
        kindsFromWaterNow();
        kindsRefused();
        measuresByBits();
        measuresOfSluices();
        measuresOfOthers();
        measuresRefused();
        nothingPasses();
        Check.end("EdgesOfOpenedTest");
    }

    private static Supplier<RiverDays> rowOne(int... values) {
        return () -> {
            RiverDays x = Stand.RICH.get();
            Make.row(x, 1, values);
            return x;
        };
    }

    private static void ways(RiverDays x, long ways, int common) {
        Call.due(x, "ways(0)", 1);
        Check.due("shut for sure", x.asked(), common);
        Make.fraction("ways", x, ways, 1);
    }

    /** "(1 to 4 DAYS from this one on ..)"; "SIZE: not 1 to 4" */
    private static void waysSizes() {
        RiverDays x = Make.river(NO_RAIN + "w90");
        for (int n = 1; n <= 4; n++) {
            x.row(0, n);
            ways(x, 1 << n, 0);
            Call.due(x, "first(0, 1)", 0);
            Make.isRow("a PLAN of " + n, x, 1, new int[n]);
        }
        for (int n : new int[] {0, 5, 6, 12, 13, 40}) {
            Refused.finds(Refused.SIZE, rowOne(new int[n]), "ways(1)", "first(1, 5)");
        }
    }

    /** "0 .. 999 each"; "UNLIKE": at each place of four */
    private static void waysNumbers() {
        for (int place = 0; place < 4; place++) {
            for (int v : new int[] {-1, 1000, Integer.MIN_VALUE, Integer.MAX_VALUE}) {
                int[] values = new int[4];
                values[place] = v;
                Refused.finds(Refused.UNLIKE, rowOne(values), "ways(1)", "first(1, 5)");
            }
            for (int v : new int[] {998, 999}) {
                RiverDays x = Make.river(NO_RAIN + "w90");
                x.row(0, 4);
                x.lay(0, place, v);
                ways(x, 0, 0);
                Call.due(x, "first(0, 1)", RiverDays.NONE);
            }
        }
        Refused.finds(Refused.UNLIKE, rowOne(-1), "ways(1)", "first(1, 5)");
        Refused.finds(Refused.UNLIKE, rowOne(1000), "ways(1)", "first(1, 5)");
    }

    /** By how many PLANS: 8 sets on each of four DAYS, and none. */
    private static void waysMost() {
        RiverDays x = Make.river(NO_RAIN + "w90p90s90a10");
        x.row(0, 4);
        ways(x, 4096, 0);
        x.lay(0, 3, 1);
        ways(x, 0, 0);
        RiverDays none = Make.river(NO_RAIN + "a15m10");
        Make.row(none, 0, 0, 5, 0, 0);
        ways(none, 1, 0);
        Make.row(none, 0, 5);
        ways(none, 0, 0);
    }

    /** "REACHES (bits) that were SHUT on the first DAY in all of these by asked() (0: there are none)" */
    private static void waysShutInAll() {
        RiverDays x = Make.river(NO_RAIN + "w39w29");
        Make.row(x, 0, 9);
        ways(x, 2, 0);
        Make.row(x, 0, 7);
        ways(x, 2, 2);
        Make.row(x, 0, 7, 8);
        ways(x, 2, 3);
        // On the second DAY the second was SHUT in all, on the first DAY in none.
        Make.row(x, 0, 9, 4);
        ways(x, 2, 1);
        Make.row(x, 0, 9, 9);
        ways(x, 2, 0);
        Make.row(x, 0, 9, 7);
        ways(x, 2, 0);
        // The last REACH of six, SHUT for sure.
        RiverDays six = Make.river(NO_RAIN + "a10a10a10a10a10w19");
        Make.row(six, 0, 8);
        ways(six, 1, 32);
        // There are none: 0, also behind ones that were sure.
        Make.row(six, 0, 7);
        ways(six, 0, 0);
    }

    /** "told by upper() (lower() is 1)" */
    private static void waysLower() {
        RiverDays x = Make.river(NO_RAIN + "w99m10");
        Make.row(x, 1, 1, 0);
        Call.due(x, "odds(1, 1, 5)", 1);
        Make.fraction("chances", x, 5, 12);
        Make.row(x, 0, 0);
        ways(x, 2, 0);
        Call.due(x, "odds(1, 1, 5)", 1);
        Make.row(x, 0, 1);
        ways(x, 0, 0);
    }

    /** "from this one on": by the WATER now and the RAIN of the WEEKDAYS that follow */
    private static void waysFromThisDay() {
        RiverDays x = Make.river("y1234567o0000000w90");
        for (int d = 0; d < 6; d++) {
            x.day(0);
        }
        Make.row(x, 0, 6, 7, 1, 2);
        ways(x, 1, 0);
        // 6 and 7 are held up to 9, then 1 and 2 more come.
        Make.row(x, 0, 0, 4, 1, 2);
        ways(x, 1, 1);
        RiverDays full = Make.river("y1234567o0000000w90");
        for (int d = 0; d < 40; d++) {
            full.day(0);
        }
        Make.row(full, 0, 5, 6, 7, 1);
        ways(full, 1, 0);
        Call.due(full, "first(0, 1)", 0);
    }

    /** "BAD; STATE; NOTHING; SIZE: not 1 to 4; UNLIKE. (In this order.)" of ways() */
    private static void waysRefused() {
        Refused.bad(Stand.RICH, "ways(-1)", "ways(6)");
        Refused.bad(Stand.DRY, "ways(-1)", "ways(6)");
        Refused.state(Stand.DRY, "ways(0)", "ways(5)", "ways(3)", "ways(1)", "ways(2)");
        Refused.finds(Refused.NOTHING, Stand.RICH, "ways(5)");
        Refused.finds(Refused.SIZE, Stand.RICH, "ways(3)", "ways(4)", "ways(1)");
        Refused.finds(Refused.UNLIKE, Stand.RICH, "ways(2)");
    }

    /** "The first such PLAN comes to a ROW (anew)": to a missing one, a shorter, a longer one */
    private static void firstRow() {
        for (int to : new int[] {1, 5}) {
            RiverDays x = Make.river(NO_RAIN + "w39w29");
            Make.row(x, 0, 7, 6);
            Call.due(x, "first(0, " + to + ")", 3);
            Make.isRow("missing", x, to, 3, 2);
            Make.row(x, to, 9, 9, 9, 9);
            Call.due(x, "first(0, " + to + ")", 3);
            Make.isRow("longer", x, to, 3, 2);
            x.row(to, 0);
            Call.due(x, "first(0, " + to + ")", 3);
            Make.isRow("shorter", x, to, 3, 2);
            Make.isRow("what came stays", x, 0, 7, 6);
            Call.due(x, "count(8)", 2);
        }
    }

    /** The DAYS of a PLAN pass, and are undone: it came as in ROW 0. */
    private static void cameBy(RiverDays x, int... plan) {
        for (int d = 0; d < plan.length; d++) {
            Check.due("came on DAY " + d, x.day(plan[d]), Make.at(x, 0, d));
        }
        x.undo(0);
    }

    /** PLANS by their first sets, lesser numbers ahead, not those by which fewer are SHUT. */
    private static void firstInOrder() {
        RiverDays most = Make.river(NO_RAIN + "w10p10s90");
        most.row(0, 4);
        Call.due(most, "first(0, 1)", 0);
        Make.isRow("the first of 4096", most, 1, 0, 0, 0, 0);
        RiverDays x = Make.river(NO_RAIN + "w83w53");
        Make.row(x, 0, 3, 0, 3);
        cameBy(x, 1, 0, 0);
        cameBy(x, 0, 2, 0);
        Call.due(x, "first(0, 1)", 1);
        Make.isRow("first by the first set", x, 1, 0, 2, 0);
        RiverDays y = Make.river(NO_RAIN + "s73s11w20");
        Make.row(y, 0, 0, 0, 1);
        cameBy(y, 2, 0, 0);
        cameBy(y, 1, 4, 0);
        cameBy(y, 0, 6, 4);
        Call.due(y, "first(0, 1)", 3);
        Make.isRow("0 ahead of 1 and 2", y, 1, 0, 6, 4);
    }

    /** "how many REACHES it has SHUT together" */
    private static void firstCounts() {
        RiverDays x = Make.river(NO_RAIN + "w99w99w99");
        // Nothing came on four DAYS, so the third was SHUT on each; what the second lets run on the fourth DAY, or
        // the first on the third or fourth, comes too late to be seen.
        Make.row(x, 0, 0, 0, 0, 0);
        Call.due(x, "first(0, 1)", 3 + 3 + 2 + 1);
        Make.isRow("as long as it is seen", x, 1, 7, 7, 6, 4);
        Make.row(x, 0, 9);
        Call.due(x, "first(0, 1)", 0);
        Make.isRow("nothing SHUT", x, 1, 0);
        Make.row(x, 0, 0);
        Call.due(x, "first(0, 1)", 1);
        Make.isRow("the third", x, 1, 4);
    }

    /** "NONE: there is none." The ROW is as it was, or missing still. */
    private static void firstNone() {
        Refused.none(rowOne(999), "first(1, 0)", "first(1, 1)", "first(1, 5)");
        Refused.none(rowOne(0, 0, 0, 999), "first(1, 0)", "first(1, 1)", "first(1, 5)");
    }

    private static void firstToItself() {
        RiverDays x = Make.river(NO_RAIN + "w39w29");
        Make.row(x, 0, 7, 6);
        Call.due(x, "first(0, 0)", 3);
        Make.isRow("to itself", x, 0, 3, 2);
    }

    /** "BAD; STATE; NOTHING; SIZE; UNLIKE. (In this order.)" of first() */
    private static void firstRefused() {
        Refused.bad(Stand.RICH, "first(-1, 0)", "first(6, 0)", "first(0, -1)", "first(0, 6)", "first(5, 6)",
            "first(3, 6)", "first(2, -1)");
        Refused.bad(Stand.DRY, "first(-1, 0)", "first(6, 0)", "first(0, -1)", "first(0, 6)");
        Refused.state(Stand.DRY, "first(0, 0)", "first(5, 0)", "first(3, 0)", "first(1, 0)", "first(2, 0)");
        Refused.finds(Refused.NOTHING, Stand.RICH, "first(5, 0)", "first(5, 5)");
        Refused.finds(Refused.SIZE, Stand.RICH, "first(3, 0)", "first(4, 0)", "first(1, 5)");
        Refused.finds(Refused.UNLIKE, Stand.RICH, "first(2, 0)", "first(2, 5)");
    }

    /** "by pairs in a ROW (0 to 10 DAYS ..)"; "SIZE: not by pairs, too many" */
    private static void kindsSizes() {
        RiverDays x = Make.river(NO_RAIN + "s10");
        for (int n = 0; n <= 20; n += 2) {
            x.row(0, n);
            Call.due(x, "kinds(0, 0)", 63);
            Call.due(x, "measures(0, 0)", 1022);
        }
        for (int n : new int[] {1, 3, 19, 21, 22, 23, 39, 40}) {
            Refused.finds(Refused.SIZE, rowOne(new int[n]), "kinds(0, 1)", "measures(0, 1)");
        }
        // The tenth DAY counts.
        x.row(0, 20);
        x.lay(0, 19, 1);
        Call.due(x, "kinds(0, 0)", 0);
        Call.due(x, "measures(0, 0)", 0);
        // What comes on the last DAY is not seen to run.
        x.lay(0, 19, 0);
        x.lay(0, 18, 99);
        Call.due(x, "kinds(0, 0)", 63);
        Call.due(x, "measures(0, 0)", 1022);
    }

    /** "0 .. 99"; "UNLIKE": what came, what ran, on the first and the tenth DAY */
    private static void kindsNumbers() {
        for (int place : new int[] {0, 1, 18, 19}) {
            for (int v : new int[] {-1, 100, Integer.MIN_VALUE, Integer.MAX_VALUE}) {
                int[] values = new int[20];
                values[place] = v;
                Refused.finds(Refused.UNLIKE, rowOne(values), "kinds(0, 1)", "measures(0, 1)");
            }
            int[] values = new int[20];
            values[place] = 99;
            RiverDays x = rowOne(values).get();
            Check.isTrue("99", x.kinds(0, 1) >= 0 && x.measures(0, 1) >= 0);
        }
    }

    /** A REACH, a WEIR, a MILL, a FAIR let all run, whatever their MEASURE. */
    private static void kindsOfReaches() {
        for (char letter : "awmpsf".toCharArray()) {
            RiverDays x = Make.river(NO_RAIN + letter + "59");
            Make.row(x, 0, 8, 9, 0, 8);
            Call.due(x, "kinds(0, 0)", ALL_RUNS);
            Make.row(x, 0, 0, 9);
            Call.due(x, "kinds(0, 0)", ALL_RUNS | POND);
            Make.row(x, 0, 0, 8);
            Call.due(x, "kinds(0, 0)", 0);
            Make.row(x, 0, 99, 9, 99, 99);
            Call.due(x, "kinds(0, 0)", ALL_RUNS);
        }
    }

    /** A POND loses 1, if it has WATER: what came then runs, but for 1. */
    private static void kindsOfPonds() {
        RiverDays x = Make.river(NO_RAIN + "a95");
        Make.row(x, 0, 8, 5, 0, 7);
        Call.due(x, "kinds(0, 0)", POND);
        Make.row(x, 0, 1, 5, 0, 0);
        Call.due(x, "kinds(0, 0)", POND);
        Make.row(x, 0, 0, 5, 0, 0);
        Call.due(x, "kinds(0, 0)", 63);
        Make.row(x, 0, 99, 5, 0, 98);
        Call.due(x, "kinds(0, 0)", POND);
        Make.row(x, 0, 99, 5, 0, 99);
        Call.due(x, "kinds(0, 0)", ALL_RUNS);
    }

    /** A SLUICE lets its MEASURE run at most: that of the REACH as it is. */
    private static void kindsOfSluices() {
        RiverDays x = Make.river(NO_RAIN + "a49");
        Make.row(x, 0, 0, 4, 0, 4, 0, 1, 0, 0);
        Call.due(x, "kinds(0, 0)", SLUICE);
        Make.row(x, 0, 0, 4, 0, 4, 0, 2);
        Call.due(x, "kinds(0, 0)", 0);
        Make.row(x, 0, 99, 4, 99, 4, 99, 4);
        Call.due(x, "kinds(0, 0)", SLUICE);
        RiverDays less = Make.river(NO_RAIN + "a53a54a55a56");
        int[] due = {63, 63, 63, 63 & ~SLUICE};
        for (int i = 0; i < 4; i++) {
            Make.row(less, 0, 0, 3 + i);
            Call.due(less, "kinds(" + i + ", 0)", due[i]);
        }
    }

    /** "from its WATER now" */
    private static void kindsFromWaterNow() {
        RiverDays x = Make.river("y7000000o0000000a92a90a90a90a90s90");
        Make.row(x, 0, 0, 2);
        Call.due(x, "kinds(0, 0)", 63);
        Call.due(x, "kinds(5, 0)", 0);
        x.day(0);
        Call.due(x, "kinds(0, 0)", 0);
        Call.due(x, "kinds(1, 0)", 63);
        Make.row(x, 0, 0, 7);
        Call.due(x, "kinds(0, 0)", 63);
        x.day(0);
        x.day(0);
        x.day(0);
        x.day(0);
        Make.row(x, 0, 0, 2);
        Call.due(x, "kinds(5, 0)", 63);
        Call.due(x, "measures(5, 0)", 1022 & ~2);
    }

    /** "BAD; NOTHING; SIZE ..; UNLIKE. (In this order.)" of kinds(): without REACHES every i is BAD. */
    private static void kindsRefused() {
        Refused.bad(Stand.RICH, "kinds(-1, 0)", "kinds(6, 0)", "kinds(0, -1)", "kinds(0, 6)", "kinds(-1, 5)",
            "kinds(6, 1)", "kinds(6, 2)");
        Refused.bad(Stand.DRY, "kinds(0, 0)", "kinds(0, 5)", "kinds(0, 1)", "kinds(0, 2)", "kinds(0, 6)");
        Refused.finds(Refused.NOTHING, Stand.RICH, "kinds(0, 5)", "kinds(5, 5)");
        Refused.finds(Refused.SIZE, Stand.RICH, "kinds(0, 1)", "kinds(0, 4)", "kinds(5, 4)");
        Refused.finds(Refused.UNLIKE, Stand.RICH, "kinds(0, 2)", "kinds(5, 2)");
    }

    /** "Which MEASURES (bits 1 .. 9) it can have": each one alone */
    private static void measuresByBits() {
        for (int m = 1; m <= 9; m++) {
            RiverDays x = Make.river(NO_RAIN + "s19");
            x.row(0, 4);
            x.lay(0, 0, 9);
            x.lay(0, 1, m);
            x.lay(0, 3, m);
            Call.due(x, "measures(0, 0)", 1 << m);
        }
    }

    private static void measuresOfSluices() {
        RiverDays x = Make.river(NO_RAIN + "s15");
        Make.row(x, 0, 0, 5);
        Call.due(x, "measures(0, 0)", 1022 & ~(2 | 4 | 8 | 16));
        Make.row(x, 0, 0, 4);
        Call.due(x, "measures(0, 0)", 16);
        Make.row(x, 0, 0, 0);
        Call.due(x, "measures(0, 0)", 0);
        Make.row(x, 0, 0, 6);
        Call.due(x, "measures(0, 0)", 0);
        Make.row(x, 0, 99, 5, 0, 9);
        Call.due(x, "measures(0, 0)", 1 << 9);
        Make.row(x, 0, 99, 5, 0, 10);
        Call.due(x, "measures(0, 0)", 0);
    }

    /** Of its own KIND: who lets all run may have any MEASURE, or none. */
    private static void measuresOfOthers() {
        for (char letter : "awmf".toCharArray()) {
            RiverDays x = Make.river(NO_RAIN + letter + "35");
            Make.row(x, 0, 4, 5, 0, 4);
            Call.due(x, "measures(0, 0)", 1022);
            Make.row(x, 0, 4, 5, 0, 3);
            Call.due(x, "measures(0, 0)", 0);
        }
        RiverDays p = Make.river(NO_RAIN + "p35");
        Make.row(p, 0, 4, 5, 0, 3);
        Call.due(p, "measures(0, 0)", 1022);
        Make.row(p, 0, 4, 5, 0, 4);
        Call.due(p, "measures(0, 0)", 0);
    }

    /** "BAD; NOTHING; SIZE; UNLIKE. (In this order.)" of measures() */
    private static void measuresRefused() {
        Refused.bad(Stand.RICH, "measures(-1, 0)", "measures(6, 0)", "measures(0, -1)", "measures(0, 6)",
            "measures(-1, 5)", "measures(6, 1)", "measures(6, 2)");
        Refused.bad(Stand.DRY, "measures(0, 0)", "measures(0, 5)", "measures(0, 1)", "measures(0, 2)",
            "measures(0, 6)");
        Refused.finds(Refused.NOTHING, Stand.RICH, "measures(0, 5)", "measures(5, 5)");
        Refused.finds(Refused.SIZE, Stand.RICH, "measures(0, 1)", "measures(0, 4)", "measures(5, 4)");
        Refused.finds(Refused.UNLIKE, Stand.RICH, "measures(0, 2)", "measures(5, 2)");
    }

    /** No DAY passes by any of these; ways() alone tells by upper(), lower() and asked(). */
    private static void nothingPasses() {
        for (String call : List.of("kinds(0, 0)", "kinds(5, 3)", "measures(0, 0)", "measures(5, 3)")) {
            RiverDays x = Stand.RICH.get();
            Check.isTrue(call + " is good", Call.on(x, call) >= 0);
            Check.isTrue(call + " is aside", Refused.shown(x).equals(Refused.shown(Stand.RICH.get())));
        }
        RiverDays x = Stand.RICH.get();
        RiverDays twin = Stand.RICH.get();
        Call.due(x, "ways(0)", 1);
        x.odds(0, 2, 5);
        x.at(0, 2);
        Check.isTrue("ways(0) is aside", Refused.shown(x).equals(Refused.shown(twin)));
        // first() tells by its answer alone.
        RiverDays y = Make.river(NO_RAIN + "w39w29");
        Make.row(y, 0, 7, 6);
        Make.row(y, 1, 3, 2);
        long was = y.digest();
        Call.due(y, "first(0, 1)", 3);
        Check.due("the PLAN was there already", y.digest(), was);
        Call.due(y, "asked()", 0);
        Make.fraction("not told", y, 0, 1);
    }
}
