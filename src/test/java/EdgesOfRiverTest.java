import java.util.function.Supplier;

/** Promises 12 to 16, sentence by sentence: reach, mark, weekday, swap, owns. */
public final class EdgesOfRiverTest {
    public static void main(String[] args) {
        reachNumbers();
        reachTillNow();
        reachRefused();
        stayIfShut();
        stayAfterDays();
        lessThanItNeeds();
        emptyInDays();
        letAllRun();
        moreThanItMay();
        markOfKinds();
        markRefused();
        weekdayNumbers();
        weekdayRefused();
        swapOwners();
        swapIsNoDeed();
        swapRefused();
        ownsVillages();
        ownsTillNow();
        Check.end("EdgesOfRiverTest");
    }

    /** "Of a REACH: 0 the KIND, 1 the MEASURE, 2 the WATER, 3 .. GROUND till now, 4 what ran from it in all" */
    private static void reachNumbers() {
        RiverDays x = Make.river("y0000000o0000000a19w28m37p46s55f64");
        for (int i = 0; i <= 5; i++) {
            int[] due = {i, i + 1, 9 - i, 0, 0};
            for (int what = 0; what <= 4; what++) {
                Call.due(x, "reach(" + i + ", " + what + ")", 1);
                Call.due(x, "asked()", due[what]);
            }
        }
    }

    /** A MILL that GRINDS on the first, third, fourth DAY; what ran in all, on as many DAYS as there may be. */
    private static void reachTillNow() {
        RiverDays x = Make.river("y0440000o0000000m44");
        int[] ground = {0, 1, 1, 2, 3, 3};
        int[] ran = {0, 4, 4, 8, 12, 12};
        for (int d = 0; d <= 5; d++) {
            Check.due("ground till DAY " + d, Make.of(x, 0, 3), ground[d]);
            Check.due("ran till DAY " + d, Make.of(x, 0, 4), ran[d]);
            x.day(0);
        }
        RiverDays most = Make.river("y9999999o0000000m99");
        for (int d = 0; d < 40; d++) {
            most.day(0);
        }
        Check.due("on 40 DAYS", Make.of(most, 0, 3), 40);
        Check.due("40 times 9", Make.of(most, 0, 4), 360);
        most.undo(39);
        Check.due("on 39 DAYS", Make.of(most, 0, 3), 39);
        Check.due("39 times 9", Make.of(most, 0, 4), 351);
    }

    /** "BAD." of reach() */
    private static void reachRefused() {
        Refused.bad(Stand.RICH, "reach(-1, 0)", "reach(6, 0)", "reach(0, -1)", "reach(0, 5)", "reach(MIN, 0)",
            "reach(MAX, 0)", "reach(0, MIN)", "reach(0, MAX)");
        Supplier<RiverDays> one = () -> Make.river("y0000000o0000000a11");
        Refused.bad(one, "reach(1, 0)", "reach(-1, 0)");
        Refused.bad(Stand.DRY, "reach(0, 0)", "reach(-1, 0)");
    }

    private static void mark(String reach, int kind, int due) {
        RiverDays x = Make.river("y0000000o0000000" + reach);
        Check.due("mark(0, " + kind + ") of " + reach, x.mark(0, kind), due);
        Check.due("asked stays", x.asked(), 0);
        Check.due("no deed", x.count(2), 0);
    }

    /** "a WEIR (POND, SLUICE, too) how much would stay in it, if it was SHUT now (ahead of what comes)" */
    private static void stayIfShut() {
        for (String letter : new String[] {"w", "p", "s"}) {
            for (int measure = 1; measure <= 9; measure++) {
                for (int water = 0; water <= 9; water++) {
                    mark(letter + measure + water, 1, Math.min(measure, water));
                }
            }
        }
        // Ahead of what comes: neither the RAIN nor what runs to it, nor what a POND loses.
        RiverDays x = Make.river("y9999999o0000000w32p48s12");
        Call.due(x, "mark(0, 1)", 2);
        Call.due(x, "mark(1, 1)", 4);
        Call.due(x, "mark(2, 1)", 1);
    }

    private static void stayAfterDays() {
        RiverDays x = Make.river("y9999999o0000000s19");
        for (int d = 0; d < 13; d++) {
            x.day(0);
        }
        Check.due("the water", Make.of(x, 0, 2), 99);
        Call.due(x, "mark(0, 1)", 1);
        Call.due(x, "mark(0, 4)", 99);
    }

    /** "a MILL (FAIR, too) how much less WATER it has than it needs to GRIND now (0: none)" */
    private static void lessThanItNeeds() {
        for (String letter : new String[] {"m", "f"}) {
            for (int measure = 1; measure <= 9; measure++) {
                for (int water = 0; water <= 9; water++) {
                    mark(letter + measure + water, 2, water < measure ? measure - water : 0);
                }
            }
        }
    }

    /** "a POND in how many DAYS it is empty, if nothing came or ran": it loses 1 a DAY. */
    private static void emptyInDays() {
        for (int water = 0; water <= 9; water++) {
            mark("p1" + water, 3, water);
            mark("p9" + water, 3, water);
        }
        RiverDays x = Make.river("y0000000o0000000p93");
        int[] due = {3, 2, 1, 0, 0};
        for (int d = 0; d < 5; d++) {
            Call.due(x, "mark(0, 3)", due[d]);
            x.day(1);
        }
    }

    /** "a SLUICE in how many DAYS it has let all run, if it was open, and nothing came" */
    private static void letAllRun() {
        int[][] due = {
            {0, 1, 2, 3, 4, 5, 6, 7, 8, 9}, {0, 1, 1, 2, 2, 3, 3, 4, 4, 5}, {0, 1, 1, 1, 2, 2, 2, 3, 3, 3},
            {0, 1, 1, 1, 1, 2, 2, 2, 2, 3}, {0, 1, 1, 1, 1, 1, 2, 2, 2, 2}, {0, 1, 1, 1, 1, 1, 1, 2, 2, 2},
            {0, 1, 1, 1, 1, 1, 1, 1, 2, 2}, {0, 1, 1, 1, 1, 1, 1, 1, 1, 2}, {0, 1, 1, 1, 1, 1, 1, 1, 1, 1},
        };
        for (int measure = 1; measure <= 9; measure++) {
            for (int water = 0; water <= 9; water++) {
                mark("s" + measure + water, 4, due[measure - 1][water]);
            }
        }
        RiverDays x = Make.river("y0000000o0000000s37");
        for (int left = 3; left >= 0; left--) {
            Call.due(x, "mark(0, 4)", left);
            x.day(0);
        }
    }

    /** "a FAIR how much more than it may have to GRIND it has (0: none)": its MEASURE and 2 more it may have. */
    private static void moreThanItMay() {
        for (int measure = 1; measure <= 9; measure++) {
            for (int water = 0; water <= 9; water++) {
                mark("f" + measure + water, 5, water > measure + 2 ? water - measure - 2 : 0);
            }
        }
    }

    /** "What a REACH that IS of a KIND tells": which REACH is of which KIND. */
    private static void markOfKinds() {
        String letters = "awmpsf";
        String[] is = {"", "wps", "mf", "p", "s", "f"};
        for (int i = 0; i <= 5; i++) {
            Supplier<RiverDays> one = reachOf(letters.charAt(i));
            for (int kind = 1; kind <= 5; kind++) {
                if (is[kind].indexOf(letters.charAt(i)) >= 0) {
                    Check.isTrue(letters.charAt(i) + " is of " + kind, one.get().mark(0, kind) >= 0);
                } else {
                    Refused.finds(Refused.UNLIKE, one, "mark(0, " + kind + ")");
                }
            }
        }
    }

    private static Supplier<RiverDays> reachOf(char letter) {
        return () -> Make.river("y0000000o0000000" + letter + "11");
    }

    /** "BAD: also KIND 0; UNLIKE." */
    private static void markRefused() {
        for (int i = 0; i <= 5; i++) {
            Refused.bad(Stand.RICH, "mark(" + i + ", 0)", "mark(" + i + ", -1)", "mark(" + i + ", 6)");
        }
        Refused.bad(Stand.RICH, "mark(-1, 1)", "mark(6, 1)", "mark(6, 0)", "mark(0, MAX)", "mark(0, MIN)",
            "mark(MIN, 1)", "mark(MAX, 1)");
        Refused.bad(Stand.DRY, "mark(0, 1)");
        Refused.finds(Refused.UNLIKE, Stand.RICH, "mark(5, 1)", "mark(5, 5)", "mark(0, 3)", "mark(4, 4)");
    }

    /** "Of a WEEKDAY: 0 the RAIN, 1 whose it is." */
    private static void weekdayNumbers() {
        RiverDays x = Make.river("y9876543o6543210a11");
        for (int d = 0; d <= 6; d++) {
            Call.due(x, "weekday(" + d + ", 0)", 9 - d);
            Call.due(x, "weekday(" + d + ", 1)", 6 - d);
        }
        Call.due(x, "asked()", 0);
    }

    /** "BAD; STATE: no REACHES." of weekday() */
    private static void weekdayRefused() {
        Refused.bad(Stand.RICH, "weekday(-1, 0)", "weekday(7, 0)", "weekday(0, -1)", "weekday(0, 2)", "weekday(-1, 1)",
            "weekday(7, 1)", "weekday(MIN, 0)", "weekday(MAX, 0)");
        Refused.state(Stand.DRY, "weekday(0, 0)", "weekday(6, 0)", "weekday(0, 1)", "weekday(6, 1)");
        Refused.bad(Stand.DRY, "weekday(-1, 0)", "weekday(7, 0)", "weekday(0, -1)", "weekday(0, 2)");
    }

    /** "Two WEEKDAYS change owners: 1." */
    private static void swapOwners() {
        RiverDays x = Make.river("y1234567o6543210a11");
        Call.due(x, "swap(0, 6)", 1);
        int[] owners = {0, 5, 4, 3, 2, 1, 6};
        for (int d = 0; d <= 6; d++) {
            Call.due(x, "weekday(" + d + ", 1)", owners[d]);
            Call.due(x, "weekday(" + d + ", 0)", d + 1);
        }
        Call.due(x, "swap(6, 0)", 1);
        Call.due(x, "weekday(0, 1)", 6);
        Call.due(x, "weekday(6, 1)", 0);
        // Two WEEKDAYS of one village are no same WEEKDAY.
        RiverDays same = Make.river("y1234567o2222222a11");
        Call.due(same, "swap(3, 4)", 1);
    }

    /** "(No DEED.)" */
    private static void swapIsNoDeed() {
        RiverDays x = Make.river("y1234567o6543210a11");
        x.swap(0, 6);
        Call.due(x, "count(1)", 0);
        Call.due(x, "count(2)", 0);
        Call.due(x, "undo(0)", 0);
        Call.due(x, "weekday(0, 1)", 0);
        RiverDays full = Stand.FULL.get();
        Call.due(full, "swap(0, 6)", 1);
        Call.due(full, "count(2)", 40);
    }

    /** "BAD: also the same; STATE: no REACHES." */
    private static void swapRefused() {
        Refused.bad(Stand.RICH, "swap(-1, 0)", "swap(7, 0)", "swap(0, -1)", "swap(0, 7)", "swap(0, 0)", "swap(6, 6)",
            "swap(3, 3)", "swap(7, 7)", "swap(-1, -1)", "swap(MIN, 0)", "swap(0, MAX)");
        Refused.state(Stand.DRY, "swap(0, 6)", "swap(6, 0)");
        Refused.bad(Stand.DRY, "swap(-1, 0)", "swap(0, 7)", "swap(0, 0)");
    }

    /** "a village's (0 .. 6)"; "BAD." of owns() */
    private static void ownsVillages() {
        RiverDays x = Make.river("y2222222o0123456a11");
        for (int d = 0; d < 7; d++) {
            x.day(0);
        }
        int[] due = {1, 2, 2, 2, 2, 2, 2};
        for (int v = 0; v <= 6; v++) {
            Call.due(x, "owns(" + v + ")", due[v]);
        }
        Refused.bad(Stand.RICH, "owns(-1)", "owns(7)", "owns(MIN)", "owns(MAX)");
        Refused.bad(Stand.DRY, "owns(-1)", "owns(7)");
        for (int v = 0; v <= 6; v++) {
            Call.due(Stand.DRY.get(), "owns(" + v + ")", 0);
        }
    }

    /** "What came to the sea on a village's DAYS till now": whose the DAY was when it passed, by sevens. */
    private static void ownsTillNow() {
        RiverDays x = Make.river("y1111111o0000006a15");
        x.day(0);
        Call.due(x, "owns(0)", 5);
        x.swap(0, 6);
        Call.due(x, "owns(0)", 5);
        Call.due(x, "owns(6)", 0);
        for (int d = 1; d <= 6; d++) {
            x.day(0);
        }
        Call.due(x, "owns(0)", 11);
        Call.due(x, "owns(6)", 0);
        x.day(0);
        Call.due(x, "owns(0)", 11);
        Call.due(x, "owns(6)", 1);
        Call.due(x, "count(4)", 12);
    }
}
