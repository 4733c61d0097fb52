/** Promises 12 to 16: reach, mark, weekday, swap, owns. */
public final class RiverTest {
    public static void main(String[] args) {
        reach();
        marks();
        markRefused();
        weekday();
        swap();
        owns();
        Check.end("RiverTest");
    }

    private static void reach() {
        RiverDays x = Make.river("y3000000o0000000a19w28m37p46s55f64");
        for (int i = 0; i < 6; i++) {
            Check.due("kind", Make.of(x, i, 0), i);
            Check.due("measure", Make.of(x, i, 1), i + 1);
            Check.due("water", Make.of(x, i, 2), 9 - i);
            Check.due("ground", Make.of(x, i, 3), 0);
            Check.due("ran", Make.of(x, i, 4), 0);
        }
        x.day(2);
        int[] water = {3, 11, 6, 6, 6, 5};
        int[] ground = {0, 0, 1, 0, 0, 0};
        int[] ran = {9, 6, 7, 6, 5, 4};
        for (int i = 0; i < 6; i++) {
            Check.due("water behind a day " + i, Make.of(x, i, 2), water[i]);
            Check.due("ground behind a day " + i, Make.of(x, i, 3), ground[i]);
            Check.due("ran on a day " + i, Make.of(x, i, 4), ran[i]);
        }
        x.day(0);
        Check.due("ran in all", Make.of(x, 1, 4), 17);
        Check.due("ground in all", Make.of(x, 2, 3), 2);
        Check.due("no reach", x.reach(6, 0), RiverDays.BAD);
        Check.due("no reach", x.reach(-1, 0), RiverDays.BAD);
        Check.due("what", x.reach(0, 5), RiverDays.BAD);
        Check.due("what", x.reach(0, -1), RiverDays.BAD);
        Check.due("asked stays", x.asked(), 2);
        Check.due("no river", new RiverDays().reach(0, 0), RiverDays.BAD);
    }

    private static void mark(String reach, int kind, int due) {
        RiverDays x = Make.river("y0000000o0000000" + reach);
        Check.due("mark of " + reach + " as " + kind, x.mark(0, kind), due);
        Check.due("asked stays", x.asked(), 0);
    }

    private static void marks() {
        mark("w59", 1, 5);
        mark("w55", 1, 5);
        mark("w53", 1, 3);
        mark("w50", 1, 0);
        mark("p48", 1, 4);
        mark("p42", 1, 2);
        mark("s48", 1, 4);
        mark("s43", 1, 3);
        mark("m59", 2, 0);
        mark("m55", 2, 0);
        mark("m54", 2, 1);
        mark("m50", 2, 5);
        mark("f92", 2, 7);
        mark("f19", 2, 0);
        mark("p17", 3, 7);
        mark("p90", 3, 0);
        mark("s39", 4, 3);
        mark("s38", 4, 3);
        mark("s37", 4, 3);
        mark("s36", 4, 2);
        mark("s31", 4, 1);
        mark("s30", 4, 0);
        mark("s19", 4, 9);
        mark("f39", 5, 4);
        mark("f36", 5, 1);
        mark("f35", 5, 0);
        mark("f31", 5, 0);
    }

    private static void markRefused() {
        boolean[][] is = {
            {false, false, false, false, false}, {true, false, false, false, false},
            {false, true, false, false, false}, {true, false, true, false, false},
            {true, false, false, true, false}, {false, true, false, false, true},
        };
        RiverDays x = Make.river("y0000000o0000000a11w11m11p11s11f11");
        int unlike = 0;
        for (int i = 0; i < 6; i++) {
            for (int kind = 1; kind <= 5; kind++) {
                if (is[i][kind - 1]) {
                    Check.isTrue(i + " is of " + kind, x.mark(i, kind) >= 0);
                } else {
                    Check.finds(i + " is not of " + kind, x, x.mark(i, kind), 3);
                    unlike++;
                }
            }
            Check.due("kind 0", x.mark(i, 0), RiverDays.BAD);
            Check.due("kind 6", x.mark(i, 6), RiverDays.BAD);
            Check.due("kind -1", x.mark(i, -1), RiverDays.BAD);
        }
        Check.due("unlike", x.findings(3), unlike);
        Check.due("no reach", x.mark(6, 1), RiverDays.BAD);
        Check.due("no reach", x.mark(-1, 1), RiverDays.BAD);
        Check.due("no river", new RiverDays().mark(0, 1), RiverDays.BAD);
    }

    private static void weekday() {
        RiverDays x = Make.river("y9080706o6050403a10");
        int[] rain = {9, 0, 8, 0, 7, 0, 6};
        int[] owner = {6, 0, 5, 0, 4, 0, 3};
        for (int d = 0; d < 7; d++) {
            Check.due("rain", x.weekday(d, 0), rain[d]);
            Check.due("owner", x.weekday(d, 1), owner[d]);
        }
        Check.due("no weekday", x.weekday(7, 0), RiverDays.BAD);
        Check.due("no weekday", x.weekday(-1, 0), RiverDays.BAD);
        Check.due("what", x.weekday(0, 2), RiverDays.BAD);
        Check.due("what", x.weekday(0, -1), RiverDays.BAD);
        RiverDays none = new RiverDays();
        Check.due("no reaches", none.weekday(0, 0), RiverDays.STATE);
        Check.due("no reaches", none.weekday(6, 1), RiverDays.STATE);
        Check.due("bad ahead of state", none.weekday(7, 1), RiverDays.BAD);
    }

    private static void swap() {
        RiverDays x = Make.river("y1234567o0123456a10");
        x.day(0);
        Check.due("swap", x.swap(1, 5), 1);
        Check.due("one", x.weekday(1, 1), 5);
        Check.due("other", x.weekday(5, 1), 1);
        Check.due("rain stays", x.weekday(1, 0), 2);
        Check.due("rain stays", x.weekday(5, 0), 6);
        Check.due("no deed", x.count(2), 1);
        Check.due("the same", x.swap(2, 2), RiverDays.BAD);
        Check.due("no weekday", x.swap(7, 2), RiverDays.BAD);
        Check.due("no weekday", x.swap(2, -1), RiverDays.BAD);
        Check.due("no weekday", x.swap(-1, 2), RiverDays.BAD);
        Check.due("no weekday", x.swap(2, 7), RiverDays.BAD);
        RiverDays none = new RiverDays();
        Check.due("no reaches", none.swap(0, 1), RiverDays.STATE);
        Check.due("bad ahead of state", none.swap(1, 1), RiverDays.BAD);
    }

    private static void owns() {
        RiverDays x = Make.river("y1234567o0011226a19");
        int[] came = {9, 1, 2, 3, 4, 5, 6, 7};
        for (int d = 0; d < 8; d++) {
            Check.due("day", x.day(0), came[d]);
        }
        int[] owned = {9 + 1 + 7, 2 + 3, 4 + 5, 0, 0, 0, 6};
        for (int v = 0; v < 7; v++) {
            Check.due("owns " + v, x.owns(v), owned[v]);
        }
        x.swap(0, 6);
        Check.due("what came stays whose it was", x.owns(6), 6);
        for (int d = 8; d < 15; d++) {
            x.day(0);
        }
        Check.due("later ones by the swap", x.owns(6), 6 + 7);
        Check.due("later ones by the swap", x.owns(0), 17 + 1 + 6);
        Check.due("no village", x.owns(7), RiverDays.BAD);
        Check.due("no village", x.owns(-1), RiverDays.BAD);
    }
}
