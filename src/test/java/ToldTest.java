/** Promises 39 to 45: asked, upper, lower, count, finding, findings, digest. */
public final class ToldTest {
    public static void main(String[] args) {
        asked();
        upperAndLower();
        count();
        findings();
        digestOfNothing();
        digestOfAll();
        digestOfOneReach();
        digestTellsApart();
        Check.end("ToldTest");
    }

    private static void asked() {
        RiverDays x = new RiverDays();
        Check.due("before", x.asked(), 0);
        Make.row(x, 0, 4, 6);
        x.lay(0, 1, 8);
        Check.due("lay", x.asked(), 6);
        x.mean(0);
        Check.due("mean", x.asked(), 6);
        x.at(0, 1);
        Check.due("at", x.asked(), 8);
        x.at(0, 2);
        x.at(7, 2);
        x.mean(3);
        Check.due("refused", x.asked(), 8);
        Make.text(x, 0, "y1111111o0000000w39m15");
        x.river(0);
        Check.due("not by texts, rivers", x.asked(), 8);
        x.reach(1, 2);
        Check.due("reach", x.asked(), 5);
        x.runs(0);
        Check.due("runs", x.asked(), 2);
        Make.row(x, 1, 1, 0, 0, 0);
        x.sea(1);
        Check.due("sea", x.asked(), 4);
        x.worth(2);
        Check.due("worth", x.asked(), 2);
        Make.row(x, 1, 5, 6);
        x.ways(1);
        Check.due("ways", x.asked(), 1);
        x.day(0);
        x.best(2, 3);
        x.all(2, 3);
        x.first(1, 4);
        x.kinds(0, 1);
        x.mid(3, 3);
        x.odds(3, 1, 3);
        x.grinds(1);
        x.digest();
        Check.due("by no other", x.asked(), 1);
    }

    private static void upperAndLower() {
        RiverDays x = Make.river("y0000000o0000000w69m12");
        Make.fraction("before", x, 0, 1);
        Make.row(x, 0, 1);
        x.mid(0, 3);
        Make.fraction("mid", x, 2, 1);
        Make.row(x, 0, 1, 1);
        x.mid(0, 3);
        Make.fraction("mid in lowest terms", x, 13, 2);
        x.odds(0, 3, 3);
        Make.fraction("odds of none: 0 by 1", x, 0, 1);
        x.mid(0, 3);
        x.mid(0, 13);
        x.odds(5, 1, 1);
        Make.fraction("refused", x, 13, 2);
        Make.row(x, 1, 2);
        x.ways(1);
        Make.fraction("ways", x, 2, 1);
    }

    private static void count() {
        RiverDays x = Make.river(Make.EVERY_KIND);
        x.row(1, 0);
        x.row(4, 2);
        x.text(3, 0);
        x.keep(0);
        x.keep(2);
        x.day(0);
        x.day(5);
        int[] due = {6, 2, 2, 29 + 5 - 1 + 2 - 1 - 2, 2, 2, 3, 2, 2, 2, 2};
        for (int what = 0; what <= 10; what++) {
            Check.due("count " + what, x.count(what), due[what]);
        }
        Check.due("below", x.count(-1), RiverDays.BAD);
        Check.due("above", x.count(11), RiverDays.BAD);
    }

    private static void findings() {
        RiverDays x = new RiverDays();
        Check.due("before", x.finding(), 0);
        x.at(0, 0);
        Check.due("nothing", x.finding(), 1);
        x.row(0, 0);
        Check.due("the latest stays", x.finding(), 1);
        x.at(0, 0);
        Check.due("beyond", x.finding(), 2);
        x.mean(0);
        Check.due("nought", x.finding(), 4);
        x.row(0, -1);
        Check.due("size", x.finding(), 5);
        x.row(9, -1);
        x.day(0);
        Check.due("bad and state are no findings", x.finding(), 5);
        Make.text(x, 0, "y0000000o0000000a10");
        x.river(0);
        x.mark(0, 1);
        x.mark(0, 2);
        Check.due("unlike", x.finding(), 3);
        int[] due = {0, 1, 1, 2, 1, 1};
        for (int f = 1; f <= 5; f++) {
            Check.due("findings " + f, x.findings(f), due[f]);
        }
        Check.due("no finding", x.findings(0), RiverDays.BAD);
        Check.due("no finding", x.findings(6), RiverDays.BAD);
        Check.due("no finding", x.findings(-1), RiverDays.BAD);
        Check.due("bad is no finding", x.finding(), 3);
    }

    private static long mix(long h, long... values) {
        for (long v : values) {
            h = 31 * h + v;
        }
        return h;
    }

    private static void digestOfNothing() {
        long h = mix(17, 0, 0, 0, 0, 0, 0, 0, 0, 0, 0, 0);
        h = mix(h, 0, 0, 0, 0, 0, 0, 0);
        h = mix(h, -1, -1, -1);
        h = mix(h, -1, -1, -1, -1, -1, -1);
        h = mix(h, -1, -1, -1, -1);
        Check.due("digest of nothing", new RiverDays().digest(), h);
    }

    private static void digestOfAll() {
        RiverDays x = new RiverDays();
        Make.text(x, 2, "y1234567o6543210m26w35");
        x.river(2);
        x.day(2);
        x.keep(1);
        x.day(0);
        Make.row(x, 0, 7, -8);
        x.row(5, 0);
        x.text(3, 2);
        x.put(3, 1, 200);
        // DAY 0: 6 ran from the MILL, 2 from the WEIR; DAY 1: 1 and 9.
        long h = mix(17, 2, 2, 2, 3, 11, 1, 1, 1, 2, 2, 1);
        h = mix(h, 1, 6, 2, 5, 3, 4, 4, 3, 5, 2, 6, 1, 7, 0);
        h = mix(h, 0, 0, 0, 0, 0, 9, 2);
        h = mix(h, 2, 2, 2, 1, 7);
        h = mix(h, 1, 3, 1, 0, 11);
        h = mix(h, -1, 1, -1);
        h = mix(h, 2, 7, -8, -1, -1, -1, -1, 0);
        h = mix(h, -1, -1, 22);
        for (char c : "y1234567o6543210m26w35".toCharArray()) {
            h = mix(h, c);
        }
        h = mix(h, 2, 32, (byte) 200);
        Check.due("digest of all", x.digest(), h);
    }

    private static void digestOfOneReach() {
        long h = mix(17, 1, 0, 0, 4, 0, 0, 0, 0, 0, 1, 0);
        h = mix(h, 1, 0, 0, 0, 0, 0, 0, 0, 0, 0, 0, 0, 0, 2);
        h = mix(h, 0, 0, 0, 0, 0, 0, 0);
        h = mix(h, 0, 3, 4, 0, 0);
        h = mix(h, -1, -1, -1);
        h = mix(h, -1, -1, -1, -1, -1, -1, 19);
        for (char c : "y1000000o0000002a34".toCharArray()) {
            h = mix(h, c);
        }
        h = mix(h, -1, -1, -1);
        Check.due("digest of one reach", Make.river("y1000000o0000002a34").digest(), h);
    }

    private static void digestTellsApart() {
        RiverDays x = new RiverDays();
        long before = x.digest();
        x.row(0, 2);
        Check.isTrue("a row", x.digest() != before);
        before = x.digest();
        x.lay(0, 1, 1);
        Check.isTrue("a place", x.digest() != before);
        before = x.digest();
        x.at(0, 9);
        x.asked();
        x.finding();
        Check.due("what is told is not in it", x.digest(), before);
    }
}
