import java.util.List;
import java.util.function.Supplier;

/** BREAKING, LOTS and promises 36 to 38, sentence by sentence: mid, odds, lots. */
public final class EdgesOfChancesTest {
    private static final String NO_RAIN = "y0000000o0000000";

    public static void main(String[] args) {
        neverBreaks();
        alwaysBreaks();
        eachByItself();
        onlyWhatIsShutBreaks();
        midDays();
        midFourDays();
        midRefused();
        oddsAtLeast();
        oddsNoneAndMany();
        oddsDays();
        oddsFourDays();
        oddsRefused();
        chancesAside();
        lotsSets();
        lotsFirstSeed();
        lotsLastSeed();
        lotsAnewEachCall();
        lotsTruly();
        lotsDays();
        lotsFull();
        lotsRefused();
        Check.end("EdgesOfChancesTest");
    }

    private static void mid(RiverDays x, int p, long upper, long lower) {
        Call.due(x, "mid(0, " + p + ")", 1);
        Make.fraction("mid by " + p, x, upper, lower);
    }

    private static void odds(RiverDays x, int g, int p, long upper, long lower) {
        Call.due(x, "odds(0, " + g + ", " + p + ")", 1);
        Make.fraction("odds of " + g + " by " + p, x, upper, lower);
    }

    /** p of 0: as the PLAN says. */
    private static void neverBreaks() {
        RiverDays x = Make.river("y5203140o0123456w47m33s58p29f42");
        for (int set : new int[] {0, 1, 4, 8, 5, 9, 12, 13}) {
            Make.row(x, 0, set, 13 & ~set, 5, set);
            int came = x.sea(0);
            int often = x.asked();
            mid(x, 0, came, 1);
            odds(x, often, 0, 1, 1);
            odds(x, often + 1, 0, 0, 1);
        }
    }

    /** p of 12: as if nothing was SHUT. */
    private static void alwaysBreaks() {
        RiverDays x = Make.river("y5203140o0123456w47m33s58p29f42");
        x.row(1, 4);
        int came = x.sea(1);
        int often = x.asked();
        for (int set : new int[] {0, 1, 4, 8, 5, 9, 12, 13}) {
            Make.row(x, 0, set, 13 & ~set, 5, set);
            mid(x, 12, came, 1);
            odds(x, often, 12, 1, 1);
            odds(x, often + 1, 12, 0, 1);
        }
    }

    /** "each REACH that is SHUT on a DAY is not, by p of 12, each by itself" */
    private static void eachByItself() {
        // The MILL GRINDS on the third DAY, if the first broke on the first DAY, and the second did not.
        RiverDays x = Make.river(NO_RAIN + "w55w55m90");
        Make.row(x, 0, 3, 0, 0);
        odds(x, 1, 1, 11, 144);
        odds(x, 1, 3, 3, 16);
        odds(x, 1, 6, 1, 4);
        odds(x, 1, 11, 11, 144);
        odds(x, 1, 0, 0, 1);
        odds(x, 1, 12, 0, 1);
        // On each of two DAYS by itself: it holds twice by 11 times 11 of 144.
        RiverDays y = Make.river(NO_RAIN + "w99");
        Make.row(y, 0, 1, 1);
        mid(y, 1, 23, 16);
    }

    /** A REACH that is not SHUT can't break. */
    private static void onlyWhatIsShutBreaks() {
        RiverDays x = Make.river(NO_RAIN + "w99w95");
        Make.row(x, 0, 1);
        for (int p = 0; p <= 12; p++) {
            mid(x, p, 5, 1);
        }
        Make.row(x, 0, 2, 0);
        // 5 came on the first or the second DAY, and 9 behind them.
        for (int p = 0; p <= 12; p++) {
            mid(x, p, 14, 1);
        }
        // A SLUICE that breaks is one that is not SHUT: 2 run, not 7.
        RiverDays s = Make.river(NO_RAIN + "s29");
        Make.row(s, 0, 1);
        mid(s, 0, 7, 1);
        mid(s, 12, 2, 1);
        mid(s, 6, 9, 2);
    }

    /** "by a PLAN (0 to 4 DAYS)"; "SIZE: more than 4" */
    private static void midDays() {
        RiverDays x = Make.river("y1111111o0000000a11");
        for (int n = 0; n <= 4; n++) {
            x.row(0, n);
            mid(x, 7, n, 1);
        }
        for (int n : new int[] {5, 6, 12, 13, 40}) {
            Supplier<RiverDays> more = () -> {
                RiverDays y = Stand.RICH.get();
                y.row(1, n);
                return y;
            };
            Refused.finds(Refused.SIZE, more, "mid(1, 5)", "odds(1, 5, 5)");
        }
    }

    private static void midFourDays() {
        // 9 come, but if it holds four times: 11 to the fourth of 12 to the fourth.
        RiverDays x = Make.river(NO_RAIN + "w99");
        Make.row(x, 0, 1, 1, 1, 1);
        mid(x, 1, 6095, 2304);
        // Three SHUT on four DAYS, nothing to hold: 12 to the twelfth ways, and nothing comes.
        RiverDays none = Make.river(NO_RAIN + "w90p90s90");
        Make.row(none, 0, 7, 7, 7, 7);
        mid(none, 5, 0, 1);
        // The same with 9 in the last one: they come, but if it holds four times.
        RiverDays last = Make.river(NO_RAIN + "w90p90w99");
        Make.row(last, 0, 7, 7, 7, 7);
        mid(last, 1, 6095, 2304);
    }

    /** "BAD; STATE; NOTHING; SIZE: more than 4; UNLIKE. (In this order.)" of mid() */
    private static void midRefused() {
        Refused.bad(Stand.RICH, "mid(-1, 5)", "mid(6, 5)", "mid(0, -1)", "mid(0, 13)", "mid(0, MIN)", "mid(0, MAX)",
            "mid(5, 13)", "mid(1, 13)", "mid(2, -1)");
        Refused.bad(Stand.DRY, "mid(-1, 5)", "mid(6, 5)", "mid(0, -1)", "mid(0, 13)");
        Refused.state(Stand.DRY, "mid(0, 0)", "mid(0, 12)", "mid(5, 5)", "mid(1, 5)", "mid(4, 5)", "mid(2, 5)");
        Refused.finds(Refused.NOTHING, Stand.RICH, "mid(5, 0)", "mid(5, 12)");
        Refused.finds(Refused.SIZE, Stand.RICH, "mid(1, 0)", "mid(4, 0)", "mid(4, 12)");
        Refused.finds(Refused.UNLIKE, Stand.RICH, "mid(2, 0)", "mid(2, 12)");
        planUnlike("mid(1, 5)", "odds(1, 5, 5)");
    }

    /** No set that can be SHUT, at each place of four. */
    private static void planUnlike(String... calls) {
        for (int place = 0; place < 4; place++) {
            for (int set : new int[] {-1, 2, 16, 32, 64, Integer.MIN_VALUE}) {
                int at = place;
                Supplier<RiverDays> unlike = () -> {
                    RiverDays x = Stand.RICH.get();
                    x.row(1, 4);
                    x.lay(1, at, set);
                    return x;
                };
                Refused.finds(Refused.UNLIKE, unlike, calls);
            }
        }
    }

    /** "Chances that it GRINDS at least g times": as often, once more */
    private static void oddsAtLeast() {
        RiverDays x = Make.river("y1111111o0000000m11f11");
        for (int n = 0; n <= 4; n++) {
            x.row(0, n);
            odds(x, 2 * n, 7, 1, 1);
            odds(x, 2 * n + 1, 7, 0, 1);
        }
        // It GRINDS never by 9 of 16, once by 6, twice by 1: the WEIR breaks on the first DAY, the second WEIR, too.
        RiverDays y = Make.river(NO_RAIN + "w99m10w99m10");
        Make.row(y, 0, 5, 0);
        odds(y, 0, 3, 1, 1);
        odds(y, 1, 3, 7, 16);
        odds(y, 2, 3, 1, 16);
        odds(y, 3, 3, 0, 1);
    }

    /** g of 0 and of 99 */
    private static void oddsNoneAndMany() {
        RiverDays x = Make.river("y9999999o0000000m19m19m19m19m19m19");
        x.row(0, 4);
        odds(x, 24, 5, 1, 1);
        odds(x, 25, 5, 0, 1);
        odds(x, 98, 5, 0, 1);
        odds(x, 99, 5, 0, 1);
        odds(x, 0, 5, 1, 1);
        RiverDays none = Make.river(NO_RAIN + "w99");
        Make.row(none, 0, 1);
        odds(none, 0, 5, 1, 1);
        odds(none, 1, 5, 0, 1);
    }

    private static void oddsDays() {
        // The MILL GRINDS, if the WEIR broke on one of the DAYS ahead of the last.
        RiverDays x = Make.river(NO_RAIN + "w99m10");
        x.row(0, 0);
        odds(x, 0, 6, 1, 1);
        odds(x, 1, 6, 0, 1);
        Make.row(x, 0, 1);
        odds(x, 1, 6, 0, 1);
        Make.row(x, 0, 1, 1);
        odds(x, 1, 6, 1, 2);
        Make.row(x, 0, 1, 1, 1);
        odds(x, 1, 6, 3, 4);
        Make.row(x, 0, 1, 1, 1, 1);
        odds(x, 1, 6, 7, 8);
    }

    private static void oddsFourDays() {
        RiverDays x = Make.river(NO_RAIN + "w90p90w99m10");
        Make.row(x, 0, 7, 7, 7, 7);
        odds(x, 1, 1, 397, 1728);
        odds(x, 0, 1, 1, 1);
        odds(x, 2, 1, 0, 1);
    }

    /** "BAD; STATE; NOTHING; SIZE; UNLIKE. (In this order.)" of odds() */
    private static void oddsRefused() {
        Refused.bad(Stand.RICH, "odds(-1, 5, 5)", "odds(6, 5, 5)", "odds(0, -1, 5)", "odds(0, 100, 5)", "odds(0, 5, -1)",
            "odds(0, 5, 13)", "odds(0, MIN, 5)", "odds(0, MAX, 5)", "odds(5, 100, 5)", "odds(1, 5, 13)",
            "odds(2, -1, 5)");
        Refused.bad(Stand.DRY, "odds(-1, 5, 5)", "odds(6, 5, 5)", "odds(0, -1, 5)", "odds(0, 100, 5)",
            "odds(0, 5, -1)", "odds(0, 5, 13)");
        Refused.state(Stand.DRY, "odds(0, 0, 0)", "odds(0, 99, 12)", "odds(5, 5, 5)", "odds(1, 5, 5)",
            "odds(4, 5, 5)", "odds(2, 5, 5)");
        Refused.finds(Refused.NOTHING, Stand.RICH, "odds(5, 0, 0)", "odds(5, 99, 12)");
        Refused.finds(Refused.SIZE, Stand.RICH, "odds(1, 0, 0)", "odds(4, 99, 12)");
        Refused.finds(Refused.UNLIKE, Stand.RICH, "odds(2, 0, 0)", "odds(2, 99, 12)");
    }

    /** No DAY passes by mid(), odds(); also behind 40 DEEDS; but for upper(), lower() all is as it was. */
    private static void chancesAside() {
        for (Supplier<RiverDays> stand : List.of(Stand.RICH, Stand.FULL)) {
            for (String call : new String[] {"mid(0, 1)", "odds(0, 1, 1)"}) {
                RiverDays x = stand.get();
                RiverDays twin = stand.get();
                Call.due(x, call, 1);
                x.mid(3, 0);
                twin.mid(3, 0);
                Check.isTrue(call + " is aside", Refused.shown(x).equals(Refused.shown(twin)));
            }
        }
    }

    /** As many DAYS by LOTS as there are sets, and the same DAYS by day(). */
    private static void lots(String reaches, int seed, int... sets) {
        RiverDays x = Make.river("y3141592o0123456" + reaches);
        RiverDays y = Make.river("y3141592o0123456" + reaches);
        int came = 0;
        for (int set : sets) {
            came += y.day(set);
        }
        Check.due("lots of " + seed + " by " + reaches, x.lots(sets.length, seed), came);
        Check.isTrue("as by days", Refused.shown(x).equals(Refused.shown(y)));
    }

    /**
     * "of the REACHES that can be SHUT, rising, the first is, if it by 8, cut, is odd, the second, if it by 16, the
     * third, if it by 32": from 1 come 48271, 182605794, 1291394886, 1914720637, 2078669041. By 8 these are
     * 6033, 22825724, 161424360, 239340079, 259833630.
     */
    private static void lotsSets() {
        lots("w59w48w37", 1, 1, 4, 0, 7, 6);
        lots("a15w59m20p48f10s37", 1, 2, 32, 0, 42, 40);
        lots("m10s59w48", 1, 2, 0, 0, 6, 4);
        lots("p59m20", 1, 1, 0, 0, 1, 0);
        lots("a59m20f11", 1, 0, 0, 0, 0, 0);
    }

    /** "the first from a seed (1 .. 2147483646)" */
    private static void lotsFirstSeed() {
        RiverDays x = Make.river(NO_RAIN + "w47");
        Call.due(x, "lots(1, 1)", 3);
        // 2 times 48271 is 96542: by 8 12067, by 16 6033, by 32 3016.
        lots("w59w48w37", 2, 3);
    }

    /** 2147435376 by 8 is 268429422, by 16 134214711, by 32 67107355. */
    private static void lotsLastSeed() {
        lots("w59w48w37", 2147483646, 6);
        // What follows is 2147483647 less 182605794: 1964877853, by 8 245609731, by 16 122804865, by 32 61402432.
        lots("w59w48w37", 2147483646, 6, 3);
    }

    /** A seed is told by each call: nothing is left of the call ahead. */
    private static void lotsAnewEachCall() {
        RiverDays x = Make.river(NO_RAIN + "w59w48w37");
        RiverDays y = Make.river(NO_RAIN + "w59w48w37");
        x.lots(1, 1);
        x.lots(1, 1);
        y.day(1);
        y.day(1);
        Check.isTrue("twice the same", Refused.shown(x).equals(Refused.shown(y)));
    }

    /** "n DAYS truly": DEEDS, that can be undone; what came is whose the DAYS are. */
    private static void lotsTruly() {
        RiverDays x = Make.river("y1234567o0123456a10");
        Call.due(x, "lots(9, 5)", 1 + 2 + 3 + 4 + 5 + 6 + 7 + 1);
        Call.due(x, "count(1)", 9);
        Call.due(x, "count(2)", 9);
        Call.due(x, "owns(0)", 7);
        Call.due(x, "owns(1)", 1 + 1);
        Call.due(x, "undo(8)", 1);
        Call.due(x, "count(4)", 28);
        Call.due(x, "undo(0)", 8);
        Call.due(x, "asked()", 0);
        Make.fraction("nothing told", x, 0, 1);
    }

    /** "n (1 .. 20) DAYS" */
    private static void lotsDays() {
        RiverDays x = Make.river("y1111111o0000000a11");
        Call.due(x, "lots(1, 7)", 1);
        Call.due(x, "count(2)", 1);
        Call.due(x, "undo(0)", 1);
        Call.due(x, "lots(20, 7)", 20);
        Call.due(x, "count(2)", 20);
    }

    private static Supplier<RiverDays> deeds(int n) {
        return () -> {
            RiverDays x = Stand.FULL.get();
            x.undo(n);
            return x;
        };
    }

    /** "FULL: with n more there would be more than 40 DEEDS. (FULL last.)" */
    private static void lotsFull() {
        int[][] good = {{20, 20}, {21, 19}, {38, 2}, {39, 1}};
        for (int[] pair : good) {
            RiverDays x = deeds(pair[0]).get();
            Check.isTrue("40 in all", x.lots(pair[1], 3) >= 0);
            Call.due(x, "count(2)", 40);
            Call.due(x, "lots(1, 3)", RiverDays.FULL);
        }
        Refused.full(deeds(21), "lots(20, 3)");
        Refused.full(deeds(38), "lots(3, 3)", "lots(20, 3)");
        Refused.full(deeds(39), "lots(2, 3)");
        Refused.full(deeds(40), "lots(1, 3)", "lots(1, 2147483646)");
        Refused.bad(deeds(40), "lots(0, 3)", "lots(21, 3)", "lots(1, 0)", "lots(1, MAX)");
    }

    /** "BAD; STATE: no REACHES" of lots() */
    private static void lotsRefused() {
        Refused.bad(Stand.RICH, "lots(0, 3)", "lots(-1, 3)", "lots(21, 3)", "lots(MIN, 3)", "lots(MAX, 3)", "lots(1, 0)",
            "lots(1, -1)", "lots(1, MIN)", "lots(1, MAX)");
        Refused.state(Stand.DRY, "lots(1, 1)", "lots(20, 2147483646)");
        Refused.bad(Stand.DRY, "lots(0, 1)", "lots(21, 1)", "lots(1, 0)", "lots(1, MAX)");
    }
}
