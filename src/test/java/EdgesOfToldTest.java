import java.util.function.Supplier;

/** Promises 39 to 45, sentence by sentence: asked, upper, lower, count, finding, findings, digest. */
public final class EdgesOfToldTest {
    /** Calls that tell nothing by asked(), good ones, on Stand.RICH. */
    private static final String[] NOT_ASKED = {"row(5, 3)", "tear(0)", "copy(0, 0, 4, 0, 2)", "text(2, 9)",
        "put(1, 0, 65)", "fault(0)", "fault(1)", "river(0)", "mark(0, 1)", "weekday(6, 0)", "swap(0, 6)", "owns(1)",
        "day(13)", "undo(2)", "keep(1)", "on(2)", "gates()", "water(0, 0)", "share(0, 0)", "grinds(1)", "grinds(5)",
        "best(4, 5)", "all(1, 5)", "most(0, 4)", "duel(3)", "first(0, 5)", "kinds(0, 0)", "measures(0, 0)",
        "mid(0, 6)", "odds(0, 1, 6)", "lots(3, 9)", "asked()", "upper()", "lower()", "count(3)", "finding()",
        "findings(1)", "digest()"};
    /** Calls that tell nothing by upper(), lower(). */
    private static final String[] NOT_UPPER = {"lay(0, 0, 4)", "at(0, 0)", "mean(0)", "reach(0, 2)", "runs(0)",
        "sea(0)", "worth(20)"};

    public static void main(String[] args) {
        askedBefore();
        askedByEach();
        askedByNoOther();
        askedStaysIfRefused();
        upperLowerBefore();
        upperLowerByEach();
        upperLowerByNoOther();
        countEach();
        countMost();
        countOfNone();
        countRefused();
        findingBefore();
        findingLatest();
        findingsEach();
        findingsRefused();
        digestNew();
        digestDry();
        digestOneReach();
        digestRich();
        digestFull();
        digestMost();
        digestOfBytes();
        digestChangesNothing();
        Check.end("EdgesOfToldTest");
    }

    /** "0 before" */
    private static void askedBefore() {
        Call.due(new RiverDays(), "asked()", 0);
        RiverDays x = new RiverDays();
        x.at(0, 0);
        x.row(0, 1);
        x.at(0, 1);
        x.mean(1);
        x.runs(0);
        x.worth(21);
        x.ways(0);
        Call.due(x, "asked()", 0);
    }

    /** "What the latest lay(), at(), mean(), reach(), runs(), sea(), worth(), ways() .. told" */
    private static void askedByEach() {
        RiverDays x = Make.river("y1111111o0000000w39m15");
        Make.row(x, 0, 30, 31, 35);
        Make.row(x, 1, 1, 0, 0, 0);
        Make.row(x, 2, 5, 6);
        String[] calls = {"lay(0, 1, 31)", "at(0, 2)", "mean(0)", "reach(0, 2)", "runs(0)", "sea(1)", "worth(2)",
            "ways(2)"};
        int[] answers = {1, 1, 1, 1, 5, 5 + 6 + 4 + 1, 0, 1};
        int[] told = {31, 35, 32, 9, 2, 4, 2, 1};
        for (int k = 0; k < calls.length; k++) {
            for (int after = 0; after < calls.length; after++) {
                Call.on(x, calls[after]);
                Call.due(x, calls[k], answers[k]);
                Check.due("asked() behind " + calls[k], x.asked(), told[k]);
                Check.due("asked() again", x.asked(), told[k]);
            }
        }
    }

    private static void askedByNoOther() {
        for (String call : NOT_ASKED) {
            RiverDays x = Stand.RICH.get();
            Call.due(x, "at(0, 2)", 1);
            long got = Call.on(x, call);
            boolean refused = got == RiverDays.BAD || got == RiverDays.FULL || got == RiverDays.FINDING
                || got == RiverDays.STATE;
            Check.isTrue(call + " is good", !refused || call.equals("digest()"));
            Check.due("asked() behind " + call, x.asked(), 12);
        }
    }

    /** "that was not refused" */
    private static void askedStaysIfRefused() {
        String[] refused = {"lay(6, 0, 1)", "lay(5, 0, 1)", "lay(0, 4, 1)", "at(6, 0)", "at(5, 0)", "at(0, 4)", "mean(6)",
            "mean(5)", "mean(3)", "reach(6, 0)", "reach(0, 5)", "runs(2)", "sea(6)", "sea(5)", "sea(1)", "sea(2)",
            "worth(21)", "ways(6)", "ways(5)", "ways(3)", "ways(2)"};
        for (String call : refused) {
            RiverDays x = Stand.RICH.get();
            Call.due(x, "at(0, 2)", 1);
            Check.isTrue(call + " is refused", Call.on(x, call) < 0);
            Check.due("asked() behind " + call, x.asked(), 12);
        }
    }

    /** "The upper number that was told last; 0 before." "Its lower number; 1 before." */
    private static void upperLowerBefore() {
        Make.fraction("new", new RiverDays(), 0, 1);
        RiverDays x = Make.river("y1111111o0000000w39m15");
        x.mid(0, 1);
        x.odds(0, 1, 1);
        x.ways(0);
        x.row(0, 5);
        x.mid(0, 1);
        x.odds(0, 1, 1);
        x.ways(0);
        Make.fraction("refused ones", x, 0, 1);
    }

    private static void upperLowerByEach() {
        RiverDays x = Make.river("y0000000o0000000w99m10");
        Make.row(x, 0, 1, 0);
        Make.row(x, 1, 0);
        Make.row(x, 2, 1, 1, 0);
        for (int k = 0; k < 3; k++) {
            Call.due(x, "odds(0, 1, 5)", 1);
            Make.fraction("odds", x, 5, 12);
            // 9 come, but if the WEIR held twice.
            Call.due(x, "mid(2, 6)", 1);
            Make.fraction("mid", x, 27, 4);
            Call.due(x, "ways(1)", 1);
            Make.fraction("ways", x, 2, 1);
            Make.fraction("ways, asked again", x, 2, 1);
        }
    }

    private static void upperLowerByNoOther() {
        RiverDays stand = Stand.RICH.get();
        long upper = stand.upper();
        long lower = stand.lower();
        Make.fraction("odds", stand, 5, 12);
        for (String[] calls : new String[][] {NOT_ASKED, NOT_UPPER}) {
            for (String call : calls) {
                RiverDays x = Stand.RICH.get();
                Call.on(x, call);
                if (!call.startsWith("mid") && !call.startsWith("odds")) {
                    Make.fraction("behind " + call, x, upper, lower);
                }
            }
        }
    }

    /** "0 REACHES, 1 the DAY, 2 DEEDS, 3 all WATER, 4 what came to the sea, 5 how often any GROUND, .." */
    private static void countEach() {
        RiverDays x = Make.river("y2000000o0000000w13m15p12s11f14");
        int[][] due = {
            {5, 0, 0, 15, 0, 0, 3, 2, 0, 1, 0},
            // The WEIR let 3 run, the MILL 5, the POND 2, the SLUICE 1, the FAIR 4 (it floats); 1 was lost.
            {5, 1, 1, 12, 4, 1, 3, 2, 0, 1, 0},
            // 2, 3, 4, 1 of 2, 1: the MILL, the FAIR GRIND.
            {5, 2, 2, 10, 5, 3, 3, 2, 0, 1, 0},
        };
        for (int d = 0; d < due.length; d++) {
            for (int what = 0; what <= 10; what++) {
                Check.due("DAY " + d + ", count(" + what + ")", x.count(what), due[d][what]);
            }
            x.day(0);
        }
        x.row(0, 0);
        x.row(5, 1);
        x.text(3, 0);
        x.keep(2);
        Call.due(x, "count(8)", 2);
        Call.due(x, "count(9)", 2);
        Call.due(x, "count(10)", 1);
        x.tear(0);
        Call.due(x, "count(8)", 1);
        x.keep(2);
        Call.due(x, "count(10)", 1);
    }

    /** As many of each as there may be. */
    private static void countMost() {
        RiverDays x = Make.river("y9999999o0000000w99p99s99m19f79m19");
        for (int r = 0; r <= 5; r++) {
            x.row(r, 40);
        }
        for (int t = 1; t <= 3; t++) {
            x.text(t, 60);
        }
        for (int d = 0; d < 40; d++) {
            x.day(0);
        }
        for (int k = 0; k <= 2; k++) {
            x.keep(k);
        }
        int[] due = {6, 40, 40, x.count(3), x.count(4), x.count(5), 3, 3, 6, 4, 3};
        for (int what = 0; what <= 10; what++) {
            Check.due("count(" + what + ")", x.count(what), due[what]);
        }
        RiverDays mills = Make.river("y9999999o0000000m99m99m99f99f99f99");
        for (int d = 0; d < 40; d++) {
            mills.day(0);
        }
        Call.due(mills, "count(3)", 54);
        Call.due(mills, "count(4)", 360);
        Call.due(mills, "count(5)", 240);
        Call.due(mills, "count(6)", 0);
        Call.due(mills, "count(7)", 6);
    }

    private static void countOfNone() {
        RiverDays x = Stand.DRY.get();
        int[] due = {0, 0, 0, 0, 0, 0, 0, 0, 5, 3, 0};
        for (int what = 0; what <= 10; what++) {
            Check.due("without REACHES, count(" + what + ")", x.count(what), due[what]);
        }
    }

    /** "BAD." of count() */
    private static void countRefused() {
        Refused.bad(Stand.RICH, "count(-1)", "count(11)", "count(MIN)", "count(MAX)");
        Refused.bad(RiverDays::new, "count(-1)", "count(11)");
    }

    /** "The latest FINDING (0 before any)." */
    private static void findingBefore() {
        RiverDays x = new RiverDays();
        Call.due(x, "finding()", 0);
        x.row(6, 0);
        x.day(0);
        x.count(11);
        x.undo(1);
        Call.due(x, "finding()", 0);
        for (int f = 1; f <= 5; f++) {
            Call.due(x, "findings(" + f + ")", 0);
        }
    }

    private static void findingLatest() {
        String[] calls = {"", "tear(5)", "at(0, 4)", "mark(1, 1)", "mean(3)", "row(0, -1)"};
        for (int f = 1; f <= 5; f++) {
            for (int then = 1; then <= 5; then++) {
                RiverDays x = Stand.RICH.get();
                Call.due(x, calls[f], RiverDays.FINDING);
                Call.due(x, "finding()", f);
                Call.due(x, calls[then], RiverDays.FINDING);
                Call.due(x, "finding()", then);
                Call.due(x, "row(6, 0)", RiverDays.BAD);
                Call.due(x, "river(1)", RiverDays.STATE);
                Call.due(x, "row(0, 1)", 1);
                Call.due(x, "finding()", then);
            }
        }
    }

    /** "How often a FINDING (1 .. 5) was answered." */
    private static void findingsEach() {
        String[] calls = {"", "tear(5)", "at(0, 0)", "mark(0, 1)", "mean(0)", "row(0, -1)"};
        RiverDays x = Make.river("y0000000o0000000a11");
        x.row(0, 0);
        for (int f = 1; f <= 5; f++) {
            for (int k = 0; k < f + 1; k++) {
                Call.due(x, calls[f], RiverDays.FINDING);
            }
        }
        for (int f = 1; f <= 5; f++) {
            Call.due(x, "findings(" + f + ")", f + 1);
        }
        // A RIVER that comes anew leaves them.
        x.river(0);
        for (int f = 1; f <= 5; f++) {
            Call.due(x, "findings(" + f + ")", f + 1);
        }
        Call.due(x, "finding()", 5);
    }

    /** "BAD." of findings() */
    private static void findingsRefused() {
        Refused.bad(Stand.RICH, "findings(0)", "findings(6)", "findings(-1)", "findings(MIN)", "findings(MAX)");
        Refused.bad(RiverDays::new, "findings(0)", "findings(6)");
    }

    /** The digest by the other calls, as the sentence has it; each part from an object that is made anew. */
    private static void digest(String what, Supplier<RiverDays> stand) {
        long h = mixedRiver(stand.get(), 17);
        RiverDays kept = stand.get();
        for (int k = 0; k <= 2; k++) {
            int deeds = kept.on(k);
            h = 31 * h + (deeds == RiverDays.FINDING ? -1 : deeds);
        }
        for (int r = 0; r <= 5; r++) {
            h = mixedRow(stand.get(), r, h);
        }
        for (int t = 0; t <= 3; t++) {
            h = mixedText(stand.get(), t, h);
        }
        Check.due("digest, " + what, stand.get().digest(), h);
    }

    private static long mixedRiver(RiverDays x, long h) {
        for (int what = 0; what <= 10; what++) {
            h = 31 * h + x.count(what);
        }
        for (int d = 0; d < 7 && x.count(0) > 0; d++) {
            h = 31 * h + x.weekday(d, 0);
            h = 31 * h + x.weekday(d, 1);
        }
        for (int v = 0; v <= 6; v++) {
            h = 31 * h + x.owns(v);
        }
        for (int i = 0; i < x.count(0); i++) {
            for (int what = 0; what <= 4; what++) {
                x.reach(i, what);
                h = 31 * h + x.asked();
            }
        }
        return h;
    }

    private static long mixedRow(RiverDays x, int r, long h) {
        long places = 0;
        long power = 1;
        int n = 0;
        while (x.at(r, n) == 1) {
            places = 31 * places + x.asked();
            power *= 31;
            n++;
        }
        h = 31 * h + (x.finding() == Refused.NOTHING ? -1 : n);
        return power * h + places;
    }

    private static long mixedText(RiverDays x, int t, long h) {
        long signs = 0;
        long power = 1;
        int n = 0;
        for (int was = x.put(t, n, 0); was != RiverDays.FINDING; was = x.put(t, n, 0)) {
            signs = 31 * signs + was - 1000;
            power *= 31;
            n++;
        }
        h = 31 * h + (x.finding() == Refused.NOTHING ? -1 : n);
        return power * h + signs;
    }

    /** "none without REACHES"; "-1: missing" */
    private static void digestNew() {
        digest("new", RiverDays::new);
    }

    private static void digestDry() {
        digest("without REACHES", Stand.DRY);
    }

    /** The fewest REACHES by which WEEKDAYS are in it. */
    private static void digestOneReach() {
        digest("one REACH", () -> Make.river("y1234567o6543210a98"));
        RiverDays x = Make.river("y1234567o6543210a98");
        long was = x.digest();
        x.swap(0, 6);
        Check.isTrue("owners are in it", x.digest() != was);
    }

    private static void digestRich() {
        digest("rich", Stand.RICH);
    }

    private static void digestFull() {
        digest("full", Stand.FULL);
    }

    /** ROWS of 40, all six, TEXTS of 60, all but one, and three kept RIVERS of 0, 20, 40 DEEDS. */
    private static void digestMost() {
        digest("most", () -> {
            RiverDays x = Make.river("y9876543o6543210s19p29w39m11f21a10");
            for (int r = 0; r <= 5; r++) {
                x.row(r, 40);
                x.lay(r, 0, r * 1000003);
                x.lay(r, 39, Integer.MIN_VALUE + r);
            }
            for (int t = 1; t <= 3; t++) {
                x.text(t, 60);
                x.put(t, 59, 128 + t);
            }
            x.keep(2);
            x.lots(20, 8);
            x.keep(1);
            x.lots(20, 9);
            x.keep(0);
            return x;
        });
    }

    private static void digestOfBytes() {
        for (int v : new int[] {-128, -1, 0, 127, 128, 255, 256}) {
            digest("a byte of " + v, () -> {
                RiverDays x = new RiverDays();
                x.text(0, 1);
                x.put(0, 0, v);
                return x;
            });
        }
    }

    private static void digestChangesNothing() {
        RiverDays x = Stand.RICH.get();
        x.digest();
        Check.isTrue("digest() is aside", Refused.shown(x).equals(Refused.shown(Stand.RICH.get())));
    }
}
