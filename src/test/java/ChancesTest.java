/** Promises 36 to 38: mid, odds, lots. */
public final class ChancesTest {
    public static void main(String[] args) {
        mid();
        midFarDown();
        odds();
        refused();
        lots();
        lotsRefused();
        Check.end("ChancesTest");
    }

    private static void mid(RiverDays x, int p, long upper, long lower) {
        Check.due("mid by " + p, x.mid(0, p), 1);
        Make.fraction("mid by " + p, x, upper, lower);
    }

    private static void mid() {
        RiverDays x = Make.river("y0000000o0000000w69");
        Make.row(x, 0, 1);
        mid(x, 0, 3, 1);
        mid(x, 12, 9, 1);
        mid(x, 3, 9, 2);
        mid(x, 1, 7, 2);
        mid(x, 5, 11, 2);
        Make.row(x, 0, 0);
        mid(x, 5, 9, 1);
        x.row(0, 0);
        mid(x, 5, 0, 1);
        // Held twice 3 come, held once or let at once 9: 30 of 4 ways.
        Make.row(x, 0, 1, 1);
        mid(x, 6, 15, 2);
        Check.due("no deed", x.count(2), 0);
        Check.due("asked stays", x.asked(), 0);
        // 5 come, if it breaks.
        RiverDays y = Make.river("y0000000o0000000a10w55");
        Make.row(y, 0, 2);
        mid(y, 7, 35, 12);
        RiverDays none = Make.river("y0000000o0000000a10");
        none.row(0, 4);
        mid(none, 7, 0, 1);
    }

    private static void midFarDown() {
        // Three WEIRS SHUT on four DAYS: 12 to the power of 12 ways to weigh.
        RiverDays x = Make.river("y0000000o0000000w99w99w99");
        Make.row(x, 0, 7, 7, 7, 7);
        mid(x, 12, 27, 1);
        mid(x, 0, 0, 1);
        Make.row(x, 0, 7);
        mid(x, 1, 3, 4);
        Make.row(x, 0, 4, 4);
        // The third breaks on the first DAY (1 of 12): 9 come, 9 more if it breaks again. It holds: 18 are
        // there then, of which 9 come, or all 18: (18 + 11 * 9 + 11 * 18 + 121 * 9) of 144.
        mid(x, 1, 39, 4);
    }

    private static void odds(RiverDays x, int g, int p, long upper, long lower) {
        Check.due("odds of " + g + " by " + p, x.odds(0, g, p), 1);
        Make.fraction("odds of " + g + " by " + p, x, upper, lower);
    }

    private static void odds() {
        // 9 are held; each DAY it breaks, if it is not empty, the MILL grinds a DAY later.
        RiverDays x = Make.river("y0000000o0000000w99m10");
        Make.row(x, 0, 1, 0);
        odds(x, 0, 4, 1, 1);
        odds(x, 1, 4, 1, 3);
        odds(x, 2, 4, 0, 1);
        odds(x, 99, 4, 0, 1);
        odds(x, 1, 0, 0, 1);
        odds(x, 1, 12, 1, 1);
        Make.row(x, 0, 1, 1, 0);
        odds(x, 1, 4, 5, 9);
        Make.row(x, 0, 1, 1, 1, 0);
        odds(x, 1, 3, 37, 64);
        // Each by itself: the MILL grinds, if the first breaks and the second holds.
        RiverDays y = Make.river("y0000000o0000000w55w55m90");
        Make.row(y, 0, 3, 0, 0);
        odds(y, 1, 3, 3, 16);
        x.row(0, 0);
        odds(x, 0, 3, 1, 1);
        odds(x, 1, 3, 0, 1);
        Check.due("asked stays", x.asked(), 0);
    }

    private static void refused() {
        RiverDays none = new RiverDays();
        Check.due("mid, no reaches", none.mid(0, 0), RiverDays.STATE);
        Check.due("mid, bad ahead of state", none.mid(0, 13), RiverDays.BAD);
        Check.due("odds, no reaches", none.odds(0, 0, 0), RiverDays.STATE);
        Check.due("odds, bad ahead of state", none.odds(0, 100, 0), RiverDays.BAD);
        RiverDays x = Make.river("y0000000o0000000a10w69");
        Check.due("mid, p", x.mid(0, -1), RiverDays.BAD);
        Check.due("mid, p", x.mid(0, 13), RiverDays.BAD);
        Check.due("mid, no row", x.mid(6, 1), RiverDays.BAD);
        Check.due("odds, p", x.odds(0, 1, -1), RiverDays.BAD);
        Check.due("odds, p", x.odds(0, 1, 13), RiverDays.BAD);
        Check.due("odds, g", x.odds(0, -1, 1), RiverDays.BAD);
        Check.due("odds, g", x.odds(0, 100, 1), RiverDays.BAD);
        Check.due("odds, no row", x.odds(-1, 1, 1), RiverDays.BAD);
        Check.finds("mid, missing", x, x.mid(0, 1), 1);
        Check.finds("odds, missing", x, x.odds(0, 1, 1), 1);
        Make.row(x, 0, 1, 2, 2, 2, 2);
        Check.finds("mid, 5 days, ahead of unlike", x, x.mid(0, 1), 5);
        Check.finds("odds, 5 days", x, x.odds(0, 1, 1), 5);
        Make.row(x, 0, 2, 0, 2, 3);
        Check.finds("mid, unlike", x, x.mid(0, 1), 3);
        Check.finds("odds, unlike", x, x.odds(0, 1, 1), 3);
        Make.fraction("nothing told", x, 0, 1);
    }

    private static void lots() {
        RiverDays x = Make.river("y3141592o0123456w59a10p46s38m20");
        RiverDays y = Make.river("y3141592o0123456w59a10p46s38m20");
        long lot = 4711;
        int came = 0;
        for (int d = 0; d < 20; d++) {
            lot = lot * 48271 % 2147483647;
            int shut = (int) (lot / 8 % 2 * 1 + lot / 16 % 2 * 4 + lot / 32 % 2 * 8);
            came += y.day(shut);
        }
        Check.due("lots", x.lots(20, 4711), came);
        Check.due("deeds", x.count(2), 20);
        Check.due("as by days", x.digest(), y.digest());
        Check.due("undone", x.undo(7), 13);
        y.undo(7);
        Check.due("as by days", x.digest(), y.digest());
        // The first number of seed 1 is 48271: by 8 6033, odd.
        RiverDays z = Make.river("y0000000o0000000a10w47");
        Check.due("shut", z.lots(1, 1), 3);
        RiverDays even = Make.river("y0000000o0000000w47");
        Check.due("seed 2147483646: 2147435376 by 8 is 268429422, even", even.lots(1, 2147483646), 7);
        Check.due("asked stays", x.asked(), 0);
    }

    private static void lotsRefused() {
        RiverDays none = new RiverDays();
        Check.due("no reaches", none.lots(1, 1), RiverDays.STATE);
        Check.due("bad ahead of state", none.lots(0, 1), RiverDays.BAD);
        RiverDays x = Make.river("y1111111o0000000a10w47");
        Check.due("n 0", x.lots(0, 1), RiverDays.BAD);
        Check.due("n 21", x.lots(21, 1), RiverDays.BAD);
        Check.due("seed 0", x.lots(1, 0), RiverDays.BAD);
        Check.due("seed -1", x.lots(1, -1), RiverDays.BAD);
        Check.due("seed 2147483647", x.lots(1, 2147483647), RiverDays.BAD);
        Check.isTrue("20", x.lots(20, 5) >= 0);
        Check.isTrue("19", x.lots(19, 5) >= 0);
        long before = x.digest();
        Check.due("41", x.lots(2, 5), RiverDays.FULL);
        Check.due("bad ahead of full", x.lots(21, 5), RiverDays.BAD);
        Check.due("nothing changed", x.digest(), before);
        Check.isTrue("40", x.lots(1, 5) >= 0);
        Check.due("41", x.lots(1, 5), RiverDays.FULL);
    }
}
