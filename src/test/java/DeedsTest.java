/** Promises 17 to 20, and how a DAY passes: day, undo, keep, on. */
public final class DeedsTest {
    public static void main(String[] args) {
        dayByKinds();
        dayDownTheRiver();
        grindByMeasure();
        ninetyNine();
        dayRefused();
        undo();
        undoSwapped();
        keep();
        keptApart();
        keptWithOwners();
        Check.end("DeedsTest");
    }

    /** One REACH alone, no RAIN: what came to the sea, what is left. */
    private static void one(String reach, int shut, int came, int left) {
        RiverDays x = Make.river("y0000000o0000000" + reach);
        Check.due("day of " + reach + " with " + shut, x.day(shut), came);
        Check.due("left of " + reach + " with " + shut, Make.of(x, 0, 2), left);
        Check.due("ran", Make.of(x, 0, 4), came);
    }

    private static void dayByKinds() {
        one("a39", 0, 9, 0);
        one("w39", 0, 9, 0);
        one("w39", 1, 6, 3);
        one("w33", 1, 0, 3);
        one("w32", 1, 0, 2);
        one("m39", 0, 9, 0);
        one("f39", 0, 9, 0);
        one("p39", 0, 9, 0);
        one("p39", 1, 6, 2);
        one("p30", 1, 0, 0);
        one("p31", 1, 0, 0);
        one("s39", 0, 3, 6);
        one("s32", 0, 2, 0);
        one("s39", 1, 6, 3);
        one("s32", 1, 0, 2);
    }

    private static void dayDownTheRiver() {
        RiverDays x = Make.river("y5260000o0000000w34p12s21m11");
        int[] shuts = {7, 0, 5, 2};
        int[] came = {1, 0, 2, 0};
        int[][] water = {{8, 1, 2, 0}, {2, 7, 1, 2}, {8, 0, 8, 0}, {0, 7, 6, 2}};
        for (int d = 0; d < 4; d++) {
            Check.due("came on day " + d, x.day(shuts[d]), came[d]);
            for (int i = 0; i < 4; i++) {
                Check.due("water of " + i + " behind day " + d, Make.of(x, i, 2), water[d][i]);
            }
        }
        Check.due("day", x.count(1), 4);
        Check.due("deeds", x.count(2), 4);
        Check.due("ground", Make.of(x, 3, 3), 2);
    }

    private static void ground(String reach, int due) {
        RiverDays x = Make.river("y0000000o0000000" + reach);
        x.day(0);
        Check.due("ground " + reach, Make.of(x, 0, 3), due);
    }

    private static void grindByMeasure() {
        ground("m32", 0);
        ground("m33", 1);
        ground("m39", 1);
        ground("f32", 0);
        ground("f33", 1);
        ground("f35", 1);
        ground("f36", 0);
        ground("a19", 0);
        ground("w19", 0);
        ground("p19", 0);
        ground("s19", 0);
    }

    private static void ninetyNine() {
        RiverDays x = Make.river("y9999999o0000000s10p99");
        for (int d = 0; d < 12; d++) {
            x.day(2);
        }
        Check.due("97", Make.of(x, 0, 2), 97);
        Check.due("the pond", Make.of(x, 1, 2), 8);
        x.day(2);
        Check.due("99 at most", Make.of(x, 0, 2), 99);
        Check.due("all runs but 1", x.runs(3), 0);
        x.day(3);
        Check.due("ran", Make.of(x, 0, 4), 12 + 98);
        Check.due("one that is shut has 10", Make.of(x, 0, 2), 10);
        // 8 were in the POND, 98 came, 1 was lost: 105, of which 99 stay.
        Check.due("the pond loses 1 ahead of 99 at most", Make.of(x, 1, 2), 99);
        Check.due("what is above is gone", x.day(0), 99);
    }

    private static void dayRefused() {
        RiverDays none = new RiverDays();
        Check.due("no reaches", none.day(0), RiverDays.STATE);
        Check.due("bad ahead of state", none.day(1), RiverDays.BAD);
        RiverDays x = Make.river("y1000000o0000000a10w13m11");
        Check.due("can't be shut", x.day(1), RiverDays.BAD);
        Check.due("can't be shut", x.day(3), RiverDays.BAD);
        Check.due("can't be shut", x.day(4), RiverDays.BAD);
        Check.due("no reach", x.day(8), RiverDays.BAD);
        Check.due("no set", x.day(-1), RiverDays.BAD);
        Check.due("no set", x.day(Integer.MIN_VALUE), RiverDays.BAD);
        Check.due("no deeds", x.count(2), 0);
        for (int d = 0; d < 40; d++) {
            Check.isTrue("day", x.day(d % 2 * 2) >= 0);
        }
        long before = x.digest();
        Check.due("full", x.day(0), RiverDays.FULL);
        Check.due("bad ahead of full", x.day(1), RiverDays.BAD);
        Check.due("nothing changed", x.digest(), before);
    }

    private static void undo() {
        RiverDays x = Make.river(Make.EVERY_KIND);
        long[] digests = new long[6];
        int[] shuts = {0, 13, 5, 8, 1};
        for (int d = 0; d < 5; d++) {
            digests[d] = x.digest();
            x.day(shuts[d]);
        }
        digests[5] = x.digest();
        Check.due("none", x.undo(5), 0);
        Check.due("as it was", x.digest(), digests[5]);
        Check.due("one", x.undo(4), 1);
        Check.due("as it was", x.digest(), digests[4]);
        Check.due("above", x.undo(5), RiverDays.BAD);
        Check.due("below", x.undo(-1), RiverDays.BAD);
        Check.due("nothing changed", x.digest(), digests[4]);
        Check.due("three", x.undo(1), 3);
        Check.due("as it was", x.digest(), digests[1]);
        x.day(13);
        Check.due("on from there", x.digest(), digests[2]);
        Check.due("all", x.undo(0), 2);
        Check.due("as it was", x.digest(), digests[0]);
        Check.due("none of none", x.undo(0), 0);
        Check.due("no river, none", new RiverDays().undo(0), 0);
        Check.due("no river, one", new RiverDays().undo(1), RiverDays.BAD);
    }

    private static void undoSwapped() {
        RiverDays x = Make.river("y5555555o0123456a15");
        x.day(0);
        x.day(0);
        x.swap(0, 1);
        x.swap(2, 6);
        x.day(0);
        Check.due("by the swap", x.owns(6), 5);
        Check.due("undo", x.undo(1), 2);
        Check.due("owners stay", x.weekday(0, 1), 1);
        Check.due("owners stay", x.weekday(2, 1), 6);
        Check.due("what came stays whose it was then", x.owns(0), 5);
        Check.due("undone", x.owns(1), 0);
        Check.due("undone", x.owns(6), 0);
        x.day(0);
        Check.due("by the swap now", x.owns(0), 10);
    }

    private static void keep() {
        RiverDays none = new RiverDays();
        Check.due("no reaches", none.keep(0), RiverDays.STATE);
        Check.due("bad ahead of state", none.keep(3), RiverDays.BAD);
        Check.finds("on, nothing", none, none.on(0), 1);
        RiverDays x = Make.river(Make.EVERY_KIND);
        Check.due("no place", x.keep(3), RiverDays.BAD);
        Check.due("no place", x.keep(-1), RiverDays.BAD);
        Check.due("no place", x.on(3), RiverDays.BAD);
        Check.due("no place", x.on(-1), RiverDays.BAD);
        Check.finds("nothing", x, x.on(2), 1);
        Check.due("keep none", x.keep(2), 0);
        Check.due("kept", x.count(10), 1);
        x.day(4);
        x.day(9);
        Check.due("keep two", x.keep(0), 2);
        x.swap(0, 1);
        x.day(0);
        Check.due("on", x.on(0), 2);
        Check.due("deeds", x.count(2), 2);
        Check.due("owners stay", x.weekday(0, 1), 1);
        Check.due("undo a kept deed", x.undo(1), 1);
        Check.due("on again", x.on(0), 2);
        Check.due("on none", x.on(2), 0);
        Check.due("water as at first", x.count(3), 29);
        Check.due("kept", x.count(10), 2);
    }

    private static void keptApart() {
        RiverDays x = Make.river("y9999999o0123456w29m13");
        x.day(1);
        int water = x.count(3);
        int sea = x.count(4);
        int ground = x.count(5);
        x.keep(1);
        x.day(0);
        x.keep(0);
        x.undo(0);
        x.day(0);
        Check.due("on", x.on(1), 1);
        Check.due("water", x.count(3), water);
        Check.due("sea", x.count(4), sea);
        Check.due("ground", x.count(5), ground);
        Check.due("owned", x.owns(0), sea);
        x.day(0);
        Check.due("gone on from, kept is as it was", x.on(1), 1);
        Check.due("kept over", x.on(0), 2);
        Check.due("kept over", x.keep(1), 2);
        Check.due("now so", x.on(1), 2);
    }

    private static void keptWithOwners() {
        RiverDays x = Make.river("y9999999o0123456w29m13");
        x.day(1);
        x.day(0);
        x.keep(2);
        long before = x.digest();
        x.undo(0);
        x.swap(0, 6);
        x.day(0);
        x.day(1);
        x.swap(0, 6);
        Check.isTrue("another river", x.digest() != before);
        Check.due("on", x.on(2), 2);
        Check.due("as it was kept, what came whose it was then", x.digest(), before);
    }
}
