import java.util.List;
import java.util.function.Supplier;

/** Promises 27 to 31, sentence by sentence: best, all, most, worth, duel. */
public final class EdgesOfHoldingTest {
    private static final String NO_RAIN = "y0000000o0000000";
    /** By (0, 2, 0) and by (1, 0, 0) the FAIR GRINDS on three DAYS, by nothing SHUT on two. */
    private static final String TWO_WAYS = NO_RAIN + "p38w16f55";

    public static void main(String[] args) {
        bestDays();
        bestRow();
        bestFirstPlan();
        bestLesserNumbers();
        bestRefused();
        allDays();
        allFewest();
        allFirstPlan();
        allWithoutMills();
        allOnEachDay();
        allNone();
        allRefused();
        mostOfEach();
        mostDays();
        mostRefused();
        worthDays();
        worthFirst();
        worthWithoutOne();
        worthRefused();
        duelDays();
        duelTurns();
        duelRefused();
        nothingPasses();
        Check.end("EdgesOfHoldingTest");
    }

    /** "How often any GRINDS at most in n DAYS" (n 0 .. 4) */
    private static void bestDays() {
        RiverDays x = Make.river("y1111111o0000000m11f11");
        for (int n = 0; n <= 4; n++) {
            Call.due(x, "best(" + n + ", 0)", 2 * n);
            Make.isRow("a PLAN of " + n, x, 0, new int[n]);
        }
    }

    /** "the first such PLAN comes to a ROW (anew)": to a missing one, a shorter, a longer one */
    private static void bestRow() {
        for (int r : new int[] {0, 5}) {
            RiverDays x = Make.river(TWO_WAYS);
            Make.row(x, 2, 77);
            Call.due(x, "best(3, " + r + ")", 3);
            Make.isRow("missing", x, r, 0, 2, 0);
            Call.due(x, "count(8)", 2);
            Make.row(x, r, 9, 9, 9, 9, 9);
            Call.due(x, "best(3, " + r + ")", 3);
            Make.isRow("longer", x, r, 0, 2, 0);
            Make.row(x, r, 9);
            Call.due(x, "best(3, " + r + ")", 3);
            Make.isRow("shorter", x, r, 0, 2, 0);
            Call.due(x, "best(0, " + r + ")", 0);
            Make.isRow("of no DAYS", x, r);
            Call.due(x, "count(8)", 2);
            Make.isRow("another one stays", x, 2, 77);
        }
    }

    private static void often(RiverDays x, int due, int... plan) {
        Make.row(x, 4, plan);
        x.sea(4);
        Check.due("how often", x.asked(), due);
    }

    /** "PLANS .. go by their first sets, then second ones" */
    private static void bestFirstPlan() {
        RiverDays x = Make.river(TWO_WAYS);
        often(x, 2, 0, 0, 0);
        often(x, 3, 1, 0, 0);
        often(x, 3, 0, 2, 0);
        Call.due(x, "best(3, 0)", 3);
        Make.isRow("first by the first set", x, 0, 0, 2, 0);
        Call.due(x, "best(2, 0)", 2);
        Make.isRow("no need", x, 0, 0, 0);
        // Three that can be SHUT, but no MILL: the first of 8 times 8 times 8 times 8.
        RiverDays none = Make.river("y9999999o0000000w59p59s59");
        Call.due(none, "best(4, 0)", 0);
        Make.isRow("the first of all", none, 0, 0, 0, 0, 0);
    }

    /** "lesser numbers ahead": not those by which fewer are SHUT */
    private static void bestLesserNumbers() {
        RiverDays x = Make.river(NO_RAIN + "w23s29f59");
        often(x, 1, 2, 0, 0);
        often(x, 1, 1, 2, 0);
        often(x, 0, 0, 2, 0);
        often(x, 0, 1, 0, 0);
        Call.due(x, "best(3, 0)", 1);
        Make.isRow("1 ahead of 2", x, 0, 1, 2, 0);
        Call.due(x, "best(2, 0)", 1);
        Make.isRow("of two DAYS", x, 0, 2, 0);
    }

    /** "BAD; STATE." of best() */
    private static void bestRefused() {
        Refused.bad(Stand.RICH, "best(-1, 0)", "best(5, 0)", "best(0, -1)", "best(0, 6)", "best(4, 6)", "best(MIN, 0)",
            "best(MAX, 0)");
        Refused.state(Stand.DRY, "best(0, 0)", "best(4, 5)");
        Refused.bad(Stand.DRY, "best(-1, 0)", "best(5, 0)", "best(0, -1)", "best(0, 6)");
    }

    private static void allDays() {
        RiverDays x = Make.river("y1111111o0000000m11f11w11");
        for (int n = 0; n <= 4; n++) {
            Call.due(x, "all(" + n + ", 5)", 0);
            Make.isRow("a PLAN of " + n, x, 5, new int[n]);
        }
        // Without WATER nothing GRINDS, but on no DAYS all do.
        RiverDays none = Make.river(NO_RAIN + "m90");
        Call.due(none, "all(0, 0)", 0);
        Call.due(none, "all(1, 0)", RiverDays.NONE);
    }

    /** "The fewest REACHES SHUT (each DAY's counted, together)" */
    private static void allFewest() {
        // By (1, 2, 0), (2, 0, 0) all GRIND: the second has fewer SHUT.
        RiverDays x = Make.river(NO_RAIN + "s29w26f46");
        often(x, 3, 1, 2, 0);
        often(x, 3, 2, 0, 0);
        Call.due(x, "all(3, 0)", 1);
        Make.isRow("the fewest", x, 0, 2, 0, 0);
        Call.due(x, "best(3, 0)", 3);
        Make.isRow("the first", x, 0, 1, 2, 0);
        // Each DAY's are counted: 2 SHUT twice are two.
        RiverDays y = Make.river(NO_RAIN + "p54p59f35");
        often(y, 3, 2, 2, 0);
        often(y, 3, 3, 0, 0);
        Call.due(y, "all(3, 0)", 2);
        Make.isRow("two together", y, 0, 2, 2, 0);
    }

    /** "the first such PLAN of as few" */
    private static void allFirstPlan() {
        RiverDays x = Make.river(TWO_WAYS);
        Call.due(x, "all(3, 1)", 1);
        Make.isRow("first by the first set", x, 1, 0, 2, 0);
        Call.due(x, "all(2, 1)", 0);
        Make.isRow("nothing SHUT", x, 1, 0, 0);
    }

    /** Without MILLS, FAIRS all of them GRIND on each DAY. */
    private static void allWithoutMills() {
        RiverDays x = Make.river(NO_RAIN + "a11w11p11s11");
        for (int n = 0; n <= 4; n++) {
            Call.due(x, "all(" + n + ", 0)", 0);
            Make.isRow("a PLAN of " + n, x, 0, new int[n]);
        }
    }

    /** "all MILLS, FAIRS GRIND on each of n DAYS": one of two, or one DAY of two, is not enough. */
    private static void allOnEachDay() {
        RiverDays one = Make.river("y9999999o0000000m99m10");
        Call.due(one, "all(1, 0)", RiverDays.NONE);
        RiverDays later = Make.river(NO_RAIN + "a19m10");
        Call.due(later, "all(2, 0)", RiverDays.NONE);
        later.day(0);
        Call.due(later, "all(1, 0)", 0);
        Call.due(later, "all(2, 0)", RiverDays.NONE);
        RiverDays fair = Make.river("y9999999o0000000m99f91");
        Call.due(fair, "all(1, 0)", RiverDays.NONE);
        fair.day(0);
        for (int n = 1; n <= 4; n++) {
            Call.due(fair, "all(" + n + ", 0)", 0);
        }
    }

    /** "NONE: by none." The ROW is as it was, or missing still. */
    private static void allNone() {
        Supplier<RiverDays> none = () -> {
            RiverDays x = Stand.RICH.get();
            Make.text(x, 2, NO_RAIN + "w99m90");
            x.river(2);
            x.day(1);
            return x;
        };
        for (int n = 1; n <= 4; n++) {
            Refused.none(none, "all(" + n + ", 0)", "all(" + n + ", 5)");
        }
    }

    /** "BAD; STATE." of all() */
    private static void allRefused() {
        Refused.bad(Stand.RICH, "all(-1, 0)", "all(5, 0)", "all(0, -1)", "all(0, 6)", "all(4, 6)", "all(MIN, 0)",
            "all(MAX, 0)");
        Refused.state(Stand.DRY, "all(0, 0)", "all(4, 5)");
        Refused.bad(Stand.DRY, "all(-1, 0)", "all(5, 0)", "all(0, -1)", "all(0, 6)");
    }

    /** "The most that can be a village's (0 .. 6)" */
    private static void mostOfEach() {
        for (int v = 0; v <= 6; v++) {
            RiverDays x = Make.river("y0000000o" + ("" + v).repeat(7) + "w99");
            for (int other = 0; other <= 6; other++) {
                Call.due(x, "most(" + other + ", 1)", other == v ? 9 : 0);
            }
        }
    }

    /** "in n DAYS" (0 .. 4): 9 are held till a DAY of theirs comes; DAYS by sevens */
    private static void mostDays() {
        RiverDays x = Make.river("y0000000o0123456w99");
        for (int v = 0; v <= 6; v++) {
            for (int n = 0; n <= 4; n++) {
                Call.due(x, "most(" + v + ", " + n + ")", v < n ? 9 : 0);
            }
        }
        for (int d = 0; d < 6; d++) {
            x.day(1);
        }
        Call.due(x, "most(6, 1)", 9);
        Call.due(x, "most(0, 1)", 0);
        Call.due(x, "most(0, 2)", 9);
        Call.due(x, "most(2, 3)", 0);
        Call.due(x, "most(2, 4)", 9);
        x.swap(6, 2);
        Call.due(x, "most(2, 1)", 9);
        Call.due(x, "owns(2)", 0);
    }

    /** "BAD; STATE." of most() */
    private static void mostRefused() {
        Refused.bad(Stand.RICH, "most(-1, 1)", "most(7, 1)", "most(0, -1)", "most(0, 5)", "most(MIN, 1)",
            "most(0, MAX)");
        Refused.state(Stand.DRY, "most(0, 0)", "most(6, 4)");
        Refused.bad(Stand.DRY, "most(-1, 1)", "most(7, 1)", "most(0, -1)", "most(0, 5)");
    }

    /** "least often in n (0 .. 20) DAYS, nothing SHUT": a MILL that GRINDS a DAY behind each RAIN */
    private static void worthDays() {
        RiverDays x = Make.river("y1111111o0000000m10");
        int[] days = {0, 1, 2, 3, 8, 9, 19, 20};
        // Without WEEKDAY 0: not on DAYS 1, 8, 15; on DAY 0 there was no WATER.
        int[] often = {0, 0, 0, 1, 6, 6, 15, 16};
        for (int k = 0; k < days.length; k++) {
            Call.due(x, "worth(" + days[k] + ")", 0);
            Check.due("how often in " + days[k] + " DAYS", x.asked(), often[k]);
        }
        // Nothing SHUT, and none of it is done.
        RiverDays w = Make.river("y0900000o0000000w90f70");
        Call.due(w, "worth(4)", 1);
        Call.due(w, "asked()", 0);
        Call.due(w, "count(2)", 0);
        Call.due(w, "weekday(1, 0)", 9);
    }

    /** "(the first)": also the last WEEKDAY, if it is the only one; from this DAY on by sevens. */
    private static void worthFirst() {
        for (int d = 0; d <= 6; d++) {
            StringBuilder rain = new StringBuilder("0000000");
            rain.setCharAt(d, '5');
            RiverDays x = Make.river("y" + rain + "o0000000m10");
            Call.due(x, "worth(20)", d);
            Call.due(x, "asked()", 0);
            // The RAIN of DAY d GRINDS on the next: in d + 1 DAYS not yet, so each WEEKDAY is as good.
            Call.due(x, "worth(" + (d + 1) + ")", 0);
            Call.due(x, "worth(" + (d + 2) + ")", d);
        }
        RiverDays two = Make.river("y0050050o0000000m10");
        Call.due(two, "worth(7)", 2);
        Call.due(two, "asked()", 1);
        for (int d = 0; d < 5; d++) {
            two.day(0);
        }
        Call.due(two, "worth(2)", 5);
        Call.due(two, "asked()", 0);
        Call.due(two, "worth(6)", 2);
        Call.due(two, "asked()", 1);
        RiverDays full = Stand.FULL.get();
        Check.isTrue("behind 40 DEEDS", full.worth(20) >= 0);
    }

    /** "whose RAIN (if there was none of it)": that of one WEEKDAY, no more and no less, and only aside */
    private static void worthWithoutOne() {
        // 3 are in the SLUICE, which lets 1 run a DAY: without the RAIN the MILL GRINDS by these.
        RiverDays x = Make.river("y5000000o0000000s13m10");
        Call.due(x, "worth(5)", 0);
        Call.due(x, "asked()", 3);
        // With all the RAIN the FAIRS never GRIND, without that of WEEKDAY 1 once: one of the seven is without.
        RiverDays f = Make.river("y9999999o0000000s89f10f40f50");
        f.row(0, 11);
        f.sea(0);
        Call.due(f, "asked()", 0);
        Call.due(f, "worth(11)", 1);
        Call.due(f, "asked()", 1);
        // Behind it there is RAIN on each WEEKDAY again.
        RiverDays again = Make.river("y9999999o0000000m10");
        again.row(0, 9);
        Call.due(again, "worth(9)", 0);
        Call.due(again, "sea(0)", 8 * 9);
        Call.due(again, "asked()", 8);
        Call.due(again, "worth(9)", 0);
        Call.due(again, "grinds(0)", 2);
        for (int d = 0; d < 9; d++) {
            Call.due(again, "day(0)", d == 0 ? 0 : 9);
        }
    }

    /** "BAD; STATE." of worth() */
    private static void worthRefused() {
        Refused.bad(Stand.RICH, "worth(-1)", "worth(21)", "worth(MIN)", "worth(MAX)");
        Refused.state(Stand.DRY, "worth(0)", "worth(20)");
        Refused.bad(Stand.DRY, "worth(-1)", "worth(21)");
    }

    /** "By turns of n (0 .. 3) DAYS" */
    private static void duelDays() {
        RiverDays x = Make.river("y1111111o0000000m11f11");
        for (int n = 0; n <= 3; n++) {
            Call.due(x, "duel(" + n + ")", 2 * n);
        }
        Check.isTrue("behind 40 DEEDS", Stand.FULL.get().duel(3) >= 0);
    }

    /** "one says which REACHES are SHUT on the first, third DAY, another one on the second" */
    private static void duelTurns() {
        // The first one alone: let 9 run, so that the MILL GRINDS on the second DAY.
        RiverDays first = Make.river(NO_RAIN + "w99m90");
        Call.due(first, "duel(1)", 0);
        Call.due(first, "duel(2)", 1);
        Call.due(first, "duel(3)", 1);
        // Nothing runs to the WEIR's 9 on the first DAY; on the second the other one keeps them.
        RiverDays second = Make.river("y9000000o0000000w90m90");
        Call.due(second, "best(3, 0)", 1);
        Call.due(second, "duel(3)", 0);
        // (3) on the first DAY leaves 6 in the WEIR of 1: whether SHUT or not, the FAIR GRINDS on the third.
        RiverDays both = Make.river(TWO_WAYS);
        Call.due(both, "duel(2)", 2);
        Call.due(both, "duel(3)", 3);
        often(both, 3, 3, 0, 0);
        often(both, 3, 3, 1, 0);
        often(both, 3, 3, 2, 0);
        often(both, 3, 3, 3, 0);
        often(both, 2, 0, 0, 0);
        often(both, 2, 1, 2, 0);
        often(both, 2, 2, 0, 0);
    }

    /** "BAD; STATE." of duel() */
    private static void duelRefused() {
        Refused.bad(Stand.RICH, "duel(-1)", "duel(4)", "duel(MIN)", "duel(MAX)");
        Refused.state(Stand.DRY, "duel(0)", "duel(3)");
        Refused.bad(Stand.DRY, "duel(-1)", "duel(4)");
    }

    /** No DAY passes by any of these, also behind 40 DEEDS; but for a ROW, asked() all is as it was. */
    private static void nothingPasses() {
        for (Supplier<RiverDays> stand : List.of(Stand.RICH, Stand.FULL)) {
            for (String call : new String[] {"best(4, 3)", "all(0, 3)", "most(6, 4)", "worth(20)", "duel(3)"}) {
                RiverDays x = stand.get();
                RiverDays twin = stand.get();
                Check.isTrue(call + " is good", Call.on(x, call) >= 0);
                x.row(3, 0);
                x.at(0, 2);
                twin.at(0, 2);
                Check.isTrue(call + " is aside", Refused.shown(x).equals(Refused.shown(twin)));
            }
        }
    }
}
