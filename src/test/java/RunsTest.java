/** Promises 21 to 26: gates, runs, sea, water, share, grinds. */
public final class RunsTest {
    public static void main(String[] args) {
        gates();
        runs();
        sea();
        planRefused();
        waterAndShare();
        asideOnly();
        grinds();
        Check.end("RunsTest");
    }

    private static void gates() {
        Check.due("none", new RiverDays().gates(), 0);
        Check.due("every kind", Make.river("y0000000o0000000a10w10m10p10s10f10").gates(), 26);
        Check.due("no gates", Make.river("y0000000o0000000a10m10f10").gates(), 0);
        Check.due("last ones", Make.river("y0000000o0000000a10a10m10s10p10w10").gates(), 56);
    }

    private static void runs() {
        RiverDays none = new RiverDays();
        Check.due("no reaches", none.runs(0), RiverDays.STATE);
        Check.due("bad ahead of state", none.runs(2), RiverDays.BAD);
        RiverDays x = Make.river("y0000000o0000000m34f34f39w48");
        Check.due("runs", x.runs(0), 8);
        Check.due("grinding", x.asked(), 3);
        Check.due("runs, shut", x.runs(8), 4);
        Check.due("can't be shut", x.runs(1), RiverDays.BAD);
        Check.due("can't be shut", x.runs(9), RiverDays.BAD);
        Check.due("no set", x.runs(-8), RiverDays.BAD);
        Check.due("asked stays", x.asked(), 3);
        Check.due("no deed", x.count(2), 0);
        Check.due("water stays", x.count(3), 25);
    }

    private static void sea() {
        RiverDays x = Make.river("y5260000o0000000w34p12s21m11");
        Make.row(x, 0, 7, 0, 5, 2);
        Check.due("sea", x.sea(0), 1 + 0 + 2 + 0);
        Check.due("ground", x.asked(), 2);
        x.day(7);
        Make.row(x, 0, 0, 5, 2);
        Check.due("from this day on", x.sea(0), 2);
        x.row(0, 0);
        Check.due("no days", x.sea(0), 0);
        Check.due("ground", x.asked(), 0);
        x.row(0, 12);
        Check.isTrue("twelve", x.sea(0) >= 0);
        RiverDays two = Make.river("y9999999o0000000m19m19f99");
        two.row(0, 3);
        Check.due("sea", two.sea(0), 27);
        Check.due("any grinds, each counted", two.asked(), 9);
    }

    private static void planRefused() {
        RiverDays none = new RiverDays();
        Check.due("sea, no reaches", none.sea(0), RiverDays.STATE);
        Check.due("sea, bad ahead of state", none.sea(6), RiverDays.BAD);
        Check.due("share, no reaches", none.share(0, 0), RiverDays.STATE);
        Check.due("share, bad ahead of state", none.share(7, 0), RiverDays.BAD);
        Check.due("water, no reach", none.water(0, 0), RiverDays.BAD);
        Check.due("no finding", none.finding(), 0);
        RiverDays x = Make.river("y1111111o0000000a11w11");
        Check.due("sea, no row", x.sea(-1), RiverDays.BAD);
        Check.due("water, no row", x.water(0, 6), RiverDays.BAD);
        Check.due("water, no reach", x.water(2, 0), RiverDays.BAD);
        Check.due("water, no reach", x.water(-1, 0), RiverDays.BAD);
        Check.due("share, no row", x.share(0, 6), RiverDays.BAD);
        Check.due("share, no village", x.share(-1, 0), RiverDays.BAD);
        Check.finds("sea, missing", x, x.sea(0), 1);
        Check.finds("water, missing", x, x.water(0, 0), 1);
        Check.finds("share, missing", x, x.share(0, 0), 1);
        x.row(0, 13);
        x.lay(0, 0, 1);
        Check.finds("sea, 13, ahead of unlike", x, x.sea(0), 5);
        Check.finds("water, 13", x, x.water(0, 0), 5);
        Check.finds("share, 13", x, x.share(0, 0), 5);
        x.row(0, 12);
        x.lay(0, 11, 1);
        Check.finds("sea, unlike", x, x.sea(0), 3);
        Check.finds("water, unlike", x, x.water(0, 0), 3);
        Check.finds("share, unlike", x, x.share(0, 0), 3);
        Make.row(x, 1, 1, 2, 2);
        Check.finds("sea, the first unlike", x, x.sea(1), 3);
        Make.row(x, 1, 2, 1);
        x.row(1, 1);
        Check.due("sea, what is beyond does not count", x.sea(1), 1);
        x.lay(0, 11, -2);
        Check.finds("sea, no set", x, x.sea(0), 3);
        x.lay(0, 11, 4);
        Check.finds("sea, no reach", x, x.sea(0), 3);
        x.lay(0, 11, 2);
        Check.isTrue("twelve", x.sea(0) > 0);
        Check.due("asked", x.asked(), 0);
    }

    private static void waterAndShare() {
        RiverDays x = Make.river("y5260000o0011010w34p12s21m11");
        Make.row(x, 2, 7, 0, 5, 2);
        x.lay(2, 0, 7);
        int[] water = {0, 7, 6, 2};
        for (int i = 0; i < 4; i++) {
            Check.due("water of " + i, x.water(i, 2), water[i]);
        }
        Check.due("share of 0", x.share(0, 2), 1);
        Check.due("share of 1", x.share(1, 2), 2);
        Check.due("share of 2", x.share(2, 2), 0);
        Check.due("asked stays", x.asked(), 7);
        x.swap(2, 6);
        Check.due("share by days swapped", x.share(1, 2), 0);
        Check.due("share by days swapped", x.share(0, 2), 3);
        x.day(7);
        Make.row(x, 2, 0, 5, 2);
        Check.due("share from this day on", x.share(0, 2), 2);
        Check.due("water behind", x.water(2, 2), 6);
        x.row(2, 0);
        Check.due("no days: the water now", x.water(0, 2), 8);
        Check.due("no days", x.share(0, 2), 0);
    }

    private static void asideOnly() {
        RiverDays x = Make.river(Make.EVERY_KIND);
        x.day(5);
        Make.row(x, 3, 1, 8, 13);
        long before = x.digest();
        x.runs(13);
        x.sea(3);
        x.water(1, 3);
        x.share(1, 3);
        x.grinds(1);
        x.most(2, 3);
        x.worth(9);
        x.duel(3);
        x.ways(3);
        x.kinds(1, 3);
        x.mid(3, 3);
        x.odds(3, 1, 3);
        Check.due("nothing changed", x.digest(), before);
        RiverDays y = Make.river("y9999999o0000000m19");
        y.row(0, 9);
        Check.due("a weekday without rain", y.worth(9), 0);
        Check.due("is so aside only", y.sea(0), 81);
        Check.due("is so aside only", y.asked(), 9);
    }

    private static void grinds() {
        Check.due("no reach", new RiverDays().grinds(0), RiverDays.BAD);
        RiverDays x = Make.river("y0000009o0000000a10m70m10f10a10");
        Check.due("no reach", x.grinds(5), RiverDays.BAD);
        Check.due("no reach", x.grinds(-1), RiverDays.BAD);
        Check.due("no mill", x.grinds(0), RiverDays.NONE);
        Check.due("9 rain on day 6, run from 1 on day 8", x.grinds(1), 9);
        Check.due("one more", x.grinds(2), 10);
        Check.due("too much for the fair", x.grinds(3), RiverDays.NONE);
        Check.due("no mill", x.grinds(4), RiverDays.NONE);
        x.day(0);
        Check.due("a day less", x.grinds(1), 8);
        Check.due("now", Make.river("y0000000o0000000m11").grinds(0), 1);
        Check.due("never", Make.river("y0000000o0000000m10").grinds(0), RiverDays.NONE);
        Check.due("on the last of 40", Make.river("y5335533o0000000s49f14").grinds(1), 40);
        RiverDays later = Make.river("y4533444o0000000s49f14");
        Check.due("on the 41st", later.grinds(1), RiverDays.NONE);
        later.day(0);
        Check.due("now on the 40th", later.grinds(1), 40);
        // A SLUICE lets 1 run a DAY, however much it has: nothing grinds by 2.
        Check.due("never", Make.river("y9999999o0000000s10m20").grinds(1), RiverDays.NONE);
        Check.due("asked stays", x.asked(), 0);
    }
}
