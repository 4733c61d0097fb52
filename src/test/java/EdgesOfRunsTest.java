import java.util.function.Supplier;

/** Promises 21 to 26, sentence by sentence: gates, runs, sea, water, share, grinds. */
public final class EdgesOfRunsTest {
    private static final String NO_RAIN = "y0000000o0000000";

    public static void main(String[] args) {
        gatesByBits();
        runsByBits();
        runsRefused();
        planSizes();
        planSets();
        planFromThisDay();
        planBehindFortyDeeds();
        seaCountsEach();
        seaRefused();
        waterOfEach();
        waterRefused();
        shareOfEach();
        shareBySevens();
        shareRefused();
        nothingPasses();
        grindsFirst();
        grindsOnTheLast();
        grindsRefused();
        Check.end("EdgesOfRunsTest");
    }

    /** "REACHES (bits) that can be SHUT." */
    private static void gatesByBits() {
        Call.due(new RiverDays(), "gates()", 0);
        Call.due(Stand.DRY.get(), "gates()", 0);
        for (int i = 0; i <= 5; i++) {
            for (String letter : new String[] {"w", "p", "s"}) {
                RiverDays x = Make.river(NO_RAIN + "a11".repeat(i) + letter + "11" + "m11".repeat(5 - i));
                Call.due(x, "gates()", 1 << i);
            }
        }
        Call.due(Make.river(NO_RAIN + "a11m11f11"), "gates()", 0);
    }

    /** "What would come to the sea this DAY, with a set SHUT; which would GRIND by asked() (bits)." */
    private static void runsByBits() {
        RiverDays all = Make.river(NO_RAIN + "m11f11m11f11m11f11");
        Call.due(all, "runs(0)", 1);
        Call.due(all, "asked()", 63);
        for (int i = 0; i <= 5; i++) {
            RiverDays x = Make.river(NO_RAIN + "m90".repeat(i) + "m99" + "m90".repeat(5 - i));
            Call.due(x, "runs(0)", i == 5 ? 9 : 0);
            Call.due(x, "asked()", 1 << i);
        }
        RiverDays w = Make.river(NO_RAIN + "m98w49");
        Call.due(w, "runs(0)", 9);
        Call.due(w, "asked()", 0);
        Call.due(w, "runs(2)", 5);
        // Behind the last DEED there may be, it is still told.
        Check.isTrue("with 40 DEEDS", Stand.FULL.get().runs(13) >= 0);
    }

    /** "BAD; STATE." of runs() */
    private static void runsRefused() {
        Refused.bad(Stand.RICH, "runs(2)", "runs(16)", "runs(32)", "runs(64)", "runs(-1)", "runs(MIN)", "runs(MAX)");
        Refused.state(Stand.DRY, "runs(0)");
        Refused.bad(Stand.DRY, "runs(1)", "runs(-1)");
    }

    /** "A PLAN of n DAYS .. (0 to 12 in a ROW)"; "SIZE: more than 12" */
    private static void planSizes() {
        RiverDays x = Make.river("y1111111o0000000a11");
        for (int n = 0; n <= 12; n++) {
            x.row(0, n);
            Call.due(x, "sea(0)", n);
            Call.due(x, "share(0, 0)", n);
            Call.due(x, "water(0, 0)", 1);
        }
        for (int n : new int[] {13, 14, 39, 40}) {
            Supplier<RiverDays> more = () -> {
                RiverDays y = Stand.RICH.get();
                y.row(1, n);
                return y;
            };
            Refused.finds(Refused.SIZE, more, "sea(1)", "water(0, 1)", "share(0, 1)");
        }
    }

    /** "UNLIKE: no set that can be SHUT": at the first and the last place of the longest PLAN */
    private static void planSets() {
        int[] wrong = {-1, 2, 3, 16, 32, 64, 1 << 30, Integer.MIN_VALUE, Integer.MAX_VALUE};
        for (int place : new int[] {0, 5, 11}) {
            for (int set : wrong) {
                Supplier<RiverDays> unlike = () -> {
                    RiverDays x = Stand.RICH.get();
                    x.row(1, 12);
                    x.lay(1, place, set);
                    return x;
                };
                Refused.finds(Refused.UNLIKE, unlike, "sea(1)", "water(0, 1)", "share(0, 1)");
            }
            for (int set : new int[] {0, 1, 4, 5, 8, 9, 12, 13}) {
                RiverDays x = Stand.RICH.get();
                x.row(1, 12);
                x.lay(1, place, set);
                Check.isTrue("good set " + set, x.sea(1) >= 0 && x.water(0, 1) >= 0 && x.share(0, 1) >= 0);
            }
        }
    }

    /** "from this one on": RAIN and owners of the WEEKDAYS that follow, by sevens. */
    private static void planFromThisDay() {
        RiverDays x = Make.river("y1234567o0123456a10");
        x.row(0, 3);
        int[] due = {0 + 1 + 2, 1 + 2 + 3, 2 + 3 + 4, 3 + 4 + 5, 4 + 5 + 6, 5 + 6 + 7, 6 + 7 + 1, 7 + 1 + 2, 1 + 2 + 3};
        for (int d = 0; d < due.length; d++) {
            Call.due(x, "sea(0)", due[d]);
            Call.due(x, "water(0, 0)", (d + 2) % 7 + 1);
            Call.due(x, "share(" + (d + 2) % 7 + ", 0)", (d + 1) % 7 + 1);
            x.day(0);
        }
    }

    /** A PLAN is only tried: it may go beyond 40 DEEDS. */
    private static void planBehindFortyDeeds() {
        RiverDays x = Make.river("y1234567o0123456a10");
        for (int d = 0; d < 40; d++) {
            x.day(0);
        }
        x.row(0, 12);
        // DAYS 40 to 51: what rained on 39 (WEEKDAY 4) to 50 (WEEKDAY 1).
        Call.due(x, "sea(0)", 5 + 6 + 7 + 28 + 1 + 2);
        Call.due(x, "water(0, 0)", 3);
        // DAYS 40 and 47 are WEEKDAY 5.
        Call.due(x, "share(5, 0)", 5 + 5);
        Call.due(x, "count(2)", 40);
    }

    /** "how often any GRINDS by asked()": each MILL, each FAIR, each DAY */
    private static void seaCountsEach() {
        RiverDays x = Make.river("y1111111o0000000m11m11m11f11f11f11");
        for (int n : new int[] {0, 1, 2, 12}) {
            x.row(0, n);
            Call.due(x, "sea(0)", n);
            Call.due(x, "asked()", 6 * n);
        }
        RiverDays none = Make.river("y1111111o0000000a11w11");
        none.row(0, 12);
        none.at(0, 0);
        Call.due(none, "sea(0)", 12);
        Call.due(none, "asked()", 0);
    }

    /** "BAD; STATE; NOTHING; SIZE: more than 12; UNLIKE. (In this order.)" of sea() */
    private static void seaRefused() {
        Refused.bad(Stand.RICH, "sea(-1)", "sea(6)");
        Refused.bad(Stand.DRY, "sea(-1)", "sea(6)");
        Refused.state(Stand.DRY, "sea(0)", "sea(5)", "sea(1)", "sea(2)");
        Refused.finds(Refused.NOTHING, Stand.RICH, "sea(5)");
        Refused.finds(Refused.SIZE, Stand.RICH, "sea(1)");
        Refused.finds(Refused.UNLIKE, Stand.RICH, "sea(2)", "sea(4)");
    }

    /** "The WATER of a REACH behind a PLAN." */
    private static void waterOfEach() {
        RiverDays x = Make.river("y5260000o0000000w34p12s21m11");
        int[][] due = {{4, 2, 1, 1}, {8, 1, 2, 0}, {2, 7, 1, 2}, {8, 0, 8, 0}, {0, 7, 6, 2}};
        int[] plan = {7, 0, 5, 2};
        for (int n = 0; n <= 4; n++) {
            x.row(0, n);
            for (int d = 0; d < n; d++) {
                x.lay(0, d, plan[d]);
            }
            for (int i = 0; i < 4; i++) {
                Call.due(x, "water(" + i + ", 0)", due[n][i]);
            }
        }
        RiverDays six = Make.river(NO_RAIN + "a11a12a13a14a15a16");
        six.row(0, 0);
        Call.due(six, "water(0, 0)", 1);
        Call.due(six, "water(5, 0)", 6);
    }

    /** "BAD; STATE; NOTHING; SIZE; UNLIKE. (In this order.)" of water(): without REACHES every i is BAD. */
    private static void waterRefused() {
        Refused.bad(Stand.RICH, "water(-1, 0)", "water(6, 0)", "water(0, -1)", "water(0, 6)", "water(6, 6)",
            "water(-1, 5)", "water(MIN, 0)", "water(MAX, 0)");
        Refused.bad(Stand.DRY, "water(0, 0)", "water(-1, 0)", "water(0, 6)", "water(0, 5)", "water(0, 1)");
        Refused.finds(Refused.NOTHING, Stand.RICH, "water(0, 5)", "water(5, 5)");
        Refused.finds(Refused.SIZE, Stand.RICH, "water(0, 1)", "water(5, 1)");
        Refused.finds(Refused.UNLIKE, Stand.RICH, "water(0, 2)", "water(5, 4)");
    }

    /** "What is a village's (0 .. 6) by a PLAN (of what comes to the sea in it)." */
    private static void shareOfEach() {
        RiverDays x = Make.river("y2345678o0123456a11");
        x.row(0, 7);
        int[] due = {1, 2, 3, 4, 5, 6, 7};
        for (int v = 0; v <= 6; v++) {
            Call.due(x, "share(" + v + ", 0)", due[v]);
            Call.due(x, "owns(" + v + ")", 0);
        }
        // What came till now is not in it.
        x.day(0);
        x.row(0, 1);
        Call.due(x, "share(0, 0)", 0);
        Call.due(x, "share(1, 0)", 2);
    }

    private static void shareBySevens() {
        RiverDays x = Make.river("y1111111o0123456a11");
        x.row(0, 12);
        for (int v = 0; v <= 6; v++) {
            Call.due(x, "share(" + v + ", 0)", v <= 4 ? 2 : 1);
        }
        x.swap(0, 6);
        Call.due(x, "share(0, 0)", 1);
        Call.due(x, "share(6, 0)", 2);
    }

    /** "BAD; STATE; NOTHING; SIZE; UNLIKE. (In this order.)" of share() */
    private static void shareRefused() {
        Refused.bad(Stand.RICH, "share(-1, 0)", "share(7, 0)", "share(0, -1)", "share(0, 6)", "share(-1, 5)",
            "share(7, 1)", "share(7, 2)");
        Refused.bad(Stand.DRY, "share(-1, 0)", "share(7, 0)", "share(0, 6)");
        Refused.state(Stand.DRY, "share(0, 0)", "share(6, 0)", "share(0, 5)", "share(0, 1)", "share(0, 2)");
        Refused.finds(Refused.NOTHING, Stand.RICH, "share(0, 5)", "share(6, 5)");
        Refused.finds(Refused.SIZE, Stand.RICH, "share(0, 1)", "share(6, 1)");
        Refused.finds(Refused.UNLIKE, Stand.RICH, "share(0, 2)", "share(6, 4)");
    }

    /** "what runs (aside)": no DAY passes by any of these. */
    private static void nothingPasses() {
        String[] calls = {"gates()", "runs(13)", "sea(0)", "water(5, 0)", "share(6, 0)", "grinds(1)", "grinds(4)"};
        for (String call : calls) {
            RiverDays x = Stand.RICH.get();
            RiverDays twin = Stand.RICH.get();
            Call.on(x, call);
            twin.at(0, 2);
            x.at(0, 2);
            Check.isTrue(call + " is aside", Refused.shown(x).equals(Refused.shown(twin)));
        }
    }

    /** "In how many DAYS (1 .. 40), nothing SHUT, a REACH first GRINDS (1: this one)." */
    private static void grindsFirst() {
        Call.due(Make.river(NO_RAIN + "m55"), "grinds(0)", 1);
        Call.due(Make.river(NO_RAIN + "m54"), "grinds(0)", RiverDays.NONE);
        Call.due(Make.river("y5000000o0000000m54"), "grinds(0)", 2);
        Call.due(Make.river(NO_RAIN + "f57"), "grinds(0)", 1);
        Call.due(Make.river(NO_RAIN + "f58"), "grinds(0)", RiverDays.NONE);
        RiverDays six = Make.river(NO_RAIN + "m19m10m10m10m10m10");
        for (int i = 0; i <= 5; i++) {
            Call.due(six, "grinds(" + i + ")", i + 1);
        }
        // Nothing SHUT: the WEIR lets its 9 run at once, and the FAIR can't bear it.
        Call.due(Make.river(NO_RAIN + "w79f20"), "grinds(1)", RiverDays.NONE);
        RiverDays kinds = Make.river("y9999999o0000000a19w19p19s19");
        for (int i = 0; i <= 3; i++) {
            Call.due(kinds, "grinds(" + i + ")", RiverDays.NONE);
        }
        Refused.none(() -> Make.river(NO_RAIN + "m54"), "grinds(0)");
        Check.isTrue("behind 40 DEEDS", Stand.FULL.get().grinds(1) != RiverDays.BAD);
    }

    /** "NONE: on none of 40." */
    private static void grindsOnTheLast() {
        Call.due(Make.river("y5335533o0000000s49f14"), "grinds(1)", 40);
        RiverDays later = Make.river("y4533444o0000000s49f14");
        Call.due(later, "grinds(1)", RiverDays.NONE);
        later.day(0);
        Call.due(later, "grinds(1)", 40);
        later.day(0);
        Call.due(later, "grinds(1)", 39);
    }

    /** "BAD." of grinds() */
    private static void grindsRefused() {
        Refused.bad(Stand.RICH, "grinds(-1)", "grinds(6)", "grinds(MIN)", "grinds(MAX)");
        Refused.bad(Stand.DRY, "grinds(0)", "grinds(-1)");
        Supplier<RiverDays> one = () -> Make.river(NO_RAIN + "m11");
        Refused.bad(one, "grinds(1)");
    }
}
