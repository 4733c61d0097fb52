import java.util.function.Supplier;

/** "Terms": what is refused, in which order, with which FINDING; chances in lowest terms. */
public final class EdgesOfTermsTest {
    /** Every call that needs REACHES, with good numbers. */
    private static final String[] NEEDS_REACHES = {"weekday(0, 0)", "swap(0, 1)", "day(0)", "keep(0)", "runs(0)",
        "sea(0)", "share(0, 0)", "best(1, 0)", "all(1, 0)", "most(0, 1)", "worth(1)", "duel(1)", "ways(0)",
        "first(0, 1)", "mid(0, 1)", "odds(0, 1, 1)", "lots(1, 1)"};

    public static void main(String[] args) {
        badAheadOfFull();
        badAheadOfState();
        stateAheadOfFindings();
        badAheadOfFindings();
        stateBehindNothing();
        fullLast();
        refusedChangesNothing();
        nothing();
        beyond();
        unlike();
        nought();
        size();
        noFindings();
        lowestTerms();
        noughtByOne();
        Check.end("EdgesOfTermsTest");
    }

    /** "the first of these that fits, in this order: BAD, FULL" */
    private static void badAheadOfFull() {
        Refused.full(Stand.FULL, "day(0)", "lots(1, 1)");
        Refused.bad(Stand.FULL, "day(2)", "day(-1)", "lots(0, 1)", "lots(21, 1)", "lots(1, 0)", "lots(1, MAX)");
    }

    /** "BAD .., STATE": without REACHES each such call is refused, but a number that is none is told first. */
    private static void badAheadOfState() {
        Refused.state(Stand.DRY, NEEDS_REACHES);
        Refused.state(RiverDays::new, NEEDS_REACHES);
        String[] wrong = {"weekday(7, 0)", "weekday(0, 2)", "swap(0, 7)", "swap(1, 1)", "day(1)", "keep(3)", "runs(1)",
            "sea(6)", "water(0, 0)", "share(7, 0)", "share(0, 6)", "best(5, 0)", "best(1, 6)", "all(5, 0)", "all(1, 6)",
            "most(7, 1)", "most(0, 5)", "worth(21)", "duel(4)", "ways(6)", "first(6, 1)", "first(0, 6)", "mid(6, 1)",
            "mid(0, 13)", "odds(6, 1, 1)", "odds(0, 100, 1)", "odds(0, 1, 13)", "lots(21, 1)", "lots(1, 0)"};
        Refused.bad(Stand.DRY, wrong);
        Refused.bad(RiverDays::new, wrong);
    }

    /** "STATE .., FINDING": ROW 1 has too many places, 2 begins with -1, 3 is empty, 5 is missing. */
    private static void stateAheadOfFindings() {
        Refused.state(Stand.DRY, "sea(5)", "sea(1)", "sea(2)", "share(0, 5)", "share(0, 1)", "share(0, 2)", "ways(5)",
            "ways(1)", "ways(2)", "ways(3)", "first(5, 0)", "first(1, 0)", "first(2, 0)", "first(3, 0)", "mid(5, 0)",
            "mid(1, 0)", "mid(2, 0)", "odds(5, 0, 0)", "odds(1, 0, 0)", "odds(2, 0, 0)");
    }

    /** "BAD .., FINDING": one number is none, and a FINDING would fit, too. */
    private static void badAheadOfFindings() {
        Refused.bad(Stand.RICH, "row(6, -1)", "text(4, -1)", "copy(6, 0, 0, 0, -1)", "copy(0, 0, 6, 0, -1)",
            "copy(6, 0, 5, 0, 1)", "copy(5, 0, 6, 0, 1)", "copy(6, 9, 0, 9, 9)", "mark(5, 6)", "mark(5, 0)",
            "water(6, 5)", "water(6, 1)", "water(6, 2)", "share(7, 5)", "share(7, 1)", "share(7, 2)", "first(5, 6)",
            "first(1, 6)", "first(2, 6)", "kinds(6, 5)", "kinds(6, 1)", "kinds(6, 2)", "measures(6, 5)",
            "measures(6, 1)", "measures(6, 2)", "mid(5, 13)", "mid(1, 13)", "mid(2, 13)", "odds(5, 0, 13)",
            "odds(1, 100, 0)", "odds(2, -1, 0)");
    }

    /** "unless a call says so otherwise": river() has "STATE behind NOTHING". */
    private static void stateBehindNothing() {
        Refused.finds(Refused.NOTHING, Stand.RICH, "river(2)");
        Refused.finds(Refused.NOTHING, Stand.DRY, "river(2)");
        Refused.state(Stand.RICH, "river(1)", "river(3)");
        Refused.state(Stand.DRY, "river(1)", "river(3)");
    }

    /** "(FULL last.)": without REACHES there are no DEEDS, so that STATE and FULL never fit both. */
    private static void fullLast() {
        Refused.state(Stand.DRY, "day(0)", "lots(20, 1)");
        Refused.full(Stand.FULL, "day(0)", "day(13)", "lots(1, 1)", "lots(20, 2147483646)");
    }

    /** "What is refused changes nothing": here that Refused itself would see what changes. */
    private static void refusedChangesNothing() {
        String[] changes = {"row(5, 0)", "row(3, 1)", "lay(0, 0, 2)", "tear(3)", "copy(0, 0, 4, 0, 2)", "mean(4)",
            "text(2, 0)", "put(1, 0, 0)", "river(0)", "reach(0, 0)", "swap(0, 1)", "day(0)", "undo(3)", "keep(1)",
            "keep(0)", "on(0)", "runs(0)", "sea(3)", "best(4, 5)", "all(0, 5)", "worth(0)", "mid(3, 0)", "lots(1, 1)"};
        for (String change : changes) {
            RiverDays x = Stand.RICH.get();
            Check.isTrue(change + " is good", Call.on(x, change) >= 0);
            Check.isTrue(change + " is seen", !Refused.shown(x).equals(Refused.shown(Stand.RICH.get())));
        }
        Check.isTrue("two are alike", Refused.shown(Stand.RICH.get()).equals(Refused.shown(Stand.RICH.get())));
    }

    /** "1 NOTHING (a ROW, a TEXT, a kept RIVER that is missing)" */
    private static void nothing() {
        Refused.finds(Refused.NOTHING, Stand.RICH, "lay(5, 0, 1)", "at(5, 0)", "tear(5)", "copy(5, 0, 0, 0, 1)",
            "copy(0, 0, 5, 0, 1)", "copy(5, 0, 5, 0, 0)", "mean(5)", "put(2, 0, 1)", "fault(2)", "river(2)", "on(1)",
            "sea(5)", "water(0, 5)", "share(0, 5)", "ways(5)", "first(5, 0)", "kinds(0, 5)", "measures(0, 5)",
            "mid(5, 0)", "odds(5, 0, 0)");
    }

    /** "2 BEYOND (a place of a ROW, a TEXT that there is not)" */
    private static void beyond() {
        Refused.finds(Refused.BEYOND, Stand.RICH, "lay(0, 4, 1)", "at(0, 4)", "at(3, 0)", "copy(0, 4, 0, 0, 1)",
            "copy(0, 0, 0, 4, 1)", "put(1, 4, 1)", "put(3, 0, 1)");
    }

    /** "3 UNLIKE (a REACH of another KIND; a number that is none)" */
    private static void unlike() {
        Refused.finds(Refused.UNLIKE, Stand.RICH, "mark(0, 2)", "mark(1, 1)", "sea(2)", "sea(4)", "water(0, 2)",
            "share(0, 2)", "ways(2)", "first(2, 0)", "kinds(0, 2)", "measures(0, 2)", "mid(2, 0)", "odds(2, 0, 0)");
    }

    /** "4 NOUGHT (shared among none)" */
    private static void nought() {
        Refused.finds(Refused.NOUGHT, Stand.RICH, "mean(3)");
    }

    /** "5 SIZE (fewer than none; too many, not as many as due)" */
    private static void size() {
        Refused.finds(Refused.SIZE, Stand.RICH, "row(0, -1)", "text(0, -1)", "copy(0, 0, 0, 0, -1)", "sea(1)",
            "water(0, 1)", "share(0, 1)", "ways(3)", "ways(4)", "first(3, 0)", "first(4, 0)", "kinds(0, 4)",
            "measures(0, 4)", "mid(4, 0)", "odds(4, 0, 0)");
    }

    /** BAD, FULL, STATE, NONE are no FINDINGS, also ahead of any. */
    private static void noFindings() {
        Refused.bad(RiverDays::new, "row(6, -1)", "at(-1, 0)", "undo(1)", "count(11)", "findings(0)", "findings(6)");
        Refused.state(RiverDays::new, "day(0)", "keep(0)");
        Supplier<RiverDays> quiet = () -> Make.river("y0000000o0000000a11m10");
        Refused.none(quiet, "fault(0)", "grinds(0)", "all(1, 0)");
    }

    /** "in lowest terms": 3, if it holds, 9, if not; by p of 12. */
    private static void lowestTerms() {
        long[][] due = {{3, 1}, {7, 2}, {4, 1}, {9, 2}, {5, 1}, {11, 2}, {6, 1}, {13, 2}, {7, 1}, {15, 2}, {8, 1},
            {17, 2}, {9, 1}};
        RiverDays x = Make.river("y0000000o0000000w69");
        Make.row(x, 0, 1);
        for (int p = 0; p <= 12; p++) {
            Call.due(x, "mid(0, " + p + ")", 1);
            Make.fraction("mid(0, " + p + ")", x, due[p][0], due[p][1]);
        }
        // A MILL GRINDS on the second DAY, if the WEIR breaks on the first: p of 12.
        long[][] odds = {{0, 1}, {1, 12}, {1, 6}, {1, 4}, {1, 3}, {5, 12}, {1, 2}, {7, 12}, {2, 3}, {3, 4}, {5, 6},
            {11, 12}, {1, 1}};
        RiverDays y = Make.river("y0000000o0000000w99m10");
        Make.row(y, 0, 1, 0);
        for (int p = 0; p <= 12; p++) {
            Call.due(y, "odds(0, 1, " + p + ")", 1);
            Make.fraction("odds(0, 1, " + p + ")", y, odds[p][0], odds[p][1]);
        }
    }

    /** "the lower number above 0 (0 by 1)" */
    private static void noughtByOne() {
        RiverDays x = Make.river("y0000000o0000000w99m10");
        Make.row(x, 0, 1, 1, 1, 1);
        Call.due(x, "odds(0, 1, 7)", 1);
        Check.isTrue("not nought", x.upper() > 0 && x.lower() > 1);
        Call.due(x, "odds(0, 99, 7)", 1);
        Make.fraction("odds of none", x, 0, 1);
        Call.due(x, "odds(0, 1, 7)", 1);
        Make.row(x, 1, 1, 1);
        Call.due(x, "mid(1, 0)", 1);
        Make.fraction("nothing comes", x, 0, 1);
        Call.due(x, "odds(0, 1, 7)", 1);
        Make.row(x, 1, 5);
        Call.due(x, "ways(1)", 1);
        Make.fraction("by no ways", x, 0, 1);
    }
}
