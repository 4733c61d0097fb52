import java.util.function.Supplier;

/**
 * Objects in which something of everything is there, so that a refused call has much that it could spoil; two of
 * one maker are alike.
 */
final class Stand {
    /** REACHES as in Make.EVERY_KIND: 0 WEIR, 1 MILL, 2 POND, 3 SLUICE, 4 FAIR, 5 REACH; 13 can be SHUT. */
    static final Supplier<RiverDays> RICH = Stand::rich;
    /** The same with 40 DEEDS. */
    static final Supplier<RiverDays> FULL = Stand::full;
    /** ROWS and TEXTS as in RICH, but no REACHES. */
    static final Supplier<RiverDays> DRY = Stand::dry;

    private Stand() {
    }

    /**
     * ROW 0 is a good PLAN, a good row of pairs and of what came; 1 has 13 places, one of them no set and no such
     * number; 2 has two places and begins with -1; 3 is empty; 4 has five places and ends with -1; 5 is missing.
     * TEXT 0 is a RIVER, 1 has a FAULT at 3, 2 is missing, 3 is empty.
     */
    private static RiverDays dry() {
        RiverDays x = new RiverDays();
        Make.text(x, 0, Make.EVERY_KIND);
        Make.text(x, 1, "y12 ");
        x.text(3, 0);
        lay(x, 0, 1, 0, 12, 5);
        lay(x, 1, 0, 0, 0, 0, 0, 0, 0, 0, 0, 0, 0, 0, 1000);
        lay(x, 2, -1, 0);
        lay(x, 3);
        lay(x, 4, 0, 0, 0, 0, -1);
        findEach(x);
        x.at(0, 2);
        return x;
    }

    private static RiverDays rich() {
        RiverDays x = dry();
        x.river(0);
        x.day(5);
        x.day(0);
        x.keep(0);
        x.day(8);
        x.swap(1, 3);
        x.day(13);
        x.keep(2);
        x.undo(3);
        x.day(4);
        x.day(1);
        x.odds(0, 2, 5);
        x.mark(1, 1);
        x.mark(1, 1);
        x.at(0, 2);
        return x;
    }

    private static RiverDays full() {
        RiverDays x = rich();
        for (int d = x.count(2); d < 40; d++) {
            x.day(d % 3 == 0 ? 9 : 4);
        }
        return x;
    }

    private static void lay(RiverDays x, int r, int... values) {
        x.row(r, values.length);
        for (int i = 0; i < values.length; i++) {
            x.lay(r, i, values[i]);
        }
    }

    /** Each FINDING that needs no REACHES once or more, so that none of their numbers is 0; the last is BEYOND. */
    private static void findEach(RiverDays x) {
        x.tear(5);
        x.mean(3);
        x.mean(3);
        x.mean(3);
        x.row(5, -1);
        x.at(0, 4);
        x.at(0, 4);
    }
}
