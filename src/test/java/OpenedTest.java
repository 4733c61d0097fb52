/** Promises 32 to 35: ways, first, kinds, measures. */
public final class OpenedTest {
    public static void main(String[] args) {
        ways();
        first();
        refused();
        kinds();
        measures();
        pairsRefused();
        Check.end("OpenedTest");
    }

    private static void ways(RiverDays x, long ways, int common) {
        Check.due("ways", x.ways(0), 1);
        Check.due("shut for sure", x.asked(), common);
        Make.fraction("how many ways", x, ways, 1);
    }

    private static void ways() {
        RiverDays x = Make.river("y0000000o0000000w39w29");
        Make.row(x, 0, 9);
        ways(x, 2, 0);
        Make.row(x, 0, 7);
        ways(x, 2, 2);
        Make.row(x, 0, 8);
        ways(x, 0, 0);
        // 7 ran: the second was SHUT. 8 ran then: the 2 that stayed, and the 6 that the SHUT first one let.
        Make.row(x, 0, 7, 8);
        ways(x, 2, 3);
        Make.row(x, 0, 9, 9, 0, 0);
        ways(x, 2 * 4 * 4, 0);
        Make.row(x, 0, 999);
        ways(x, 0, 0);
        x.day(3);
        Make.row(x, 0, 8);
        ways(x, 2, 0);
        Make.row(x, 0, 8, 3);
        ways(x, 2, 0);
        Make.row(x, 0, 8, 1000);
        x.row(0, 1);
        x.lay(0, 0, 8);
        ways(x, 2, 0);
        RiverDays one = Make.river("y0000000o0000000w39");
        Make.row(one, 0, 6);
        ways(one, 1, 1);
        RiverDays none = Make.river("y0000000o0000000a14");
        Make.row(none, 0, 4, 0);
        ways(none, 1, 0);
    }

    private static void first() {
        RiverDays x = Make.river("y0000000o0000000w39w29");
        Make.row(x, 0, 7, 8);
        x.row(4, 3);
        Check.due("first", x.first(0, 4), 2);
        Make.isRow("first", x, 4, 3, 0);
        Make.isRow("what came", x, 0, 7, 8);
        Make.row(x, 0, 7, 6);
        Check.due("first", x.first(0, 4), 3);
        Make.isRow("first", x, 4, 3, 2);
        Make.row(x, 0, 1, 1);
        Check.due("by none", x.first(0, 4), RiverDays.NONE);
        Make.isRow("by none: as it was", x, 4, 3, 2);
        Check.due("by none", x.first(0, 5), RiverDays.NONE);
        Check.finds("by none: not made", x, x.at(5, 0), 1);
        Make.row(x, 0, 7);
        Check.due("one day behind two", x.first(0, 4), 1);
        Make.isRow("one day", x, 4, 2);
        Make.row(x, 0, 7, 8);
        x.lay(0, 0, 7);
        Check.due("to itself", x.first(0, 0), 2);
        Check.due("asked stays", x.asked(), 7);
        Make.fraction("not told", x, 0, 1);
        Make.isRow("to itself", x, 0, 3, 0);
    }

    private static void refused() {
        RiverDays none = new RiverDays();
        Check.due("ways, no reaches", none.ways(0), RiverDays.STATE);
        Check.due("ways, bad ahead of state", none.ways(6), RiverDays.BAD);
        Check.due("first, no reaches", none.first(0, 1), RiverDays.STATE);
        Check.due("first, bad ahead of state", none.first(0, 6), RiverDays.BAD);
        RiverDays x = Make.river("y0000000o0000000w39");
        Check.due("ways, no row", x.ways(-1), RiverDays.BAD);
        Check.due("first, no row", x.first(-1, 0), RiverDays.BAD);
        Check.due("first, no row", x.first(6, 0), RiverDays.BAD);
        Check.due("first, no row", x.first(0, -1), RiverDays.BAD);
        Check.finds("ways, missing", x, x.ways(0), 1);
        Check.finds("first, missing", x, x.first(0, 1), 1);
        x.row(0, 0);
        Check.finds("ways, no days", x, x.ways(0), 5);
        Check.finds("first, no days", x, x.first(0, 1), 5);
        Make.row(x, 0, -1, 0, 0, 0, 0);
        Check.finds("ways, 5 days, ahead of unlike", x, x.ways(0), 5);
        Check.finds("first, 5 days", x, x.first(0, 1), 5);
        Make.row(x, 0, 9, 0, 0, -1);
        Check.finds("ways, below", x, x.ways(0), 3);
        Check.finds("first, below", x, x.first(0, 1), 3);
        Make.row(x, 0, 1000);
        Check.finds("ways, above", x, x.ways(0), 3);
        Check.finds("first, above", x, x.first(0, 1), 3);
        Check.due("no row made", x.count(8), 1);
        Make.fraction("nothing told", x, 0, 1);
    }

    private static final int REACH = 1, WEIR = 2, MILL = 4, POND = 8, SLUICE = 16, FAIR = 32;

    private static void kinds() {
        RiverDays x = Make.river("y0000000o0000000a39m33p35");
        x.row(0, 0);
        Check.due("no days", x.kinds(0, 0), 63);
        Make.row(x, 0, 0, 9);
        Check.due("all ran", x.kinds(0, 0), REACH | WEIR | MILL | POND | FAIR);
        Make.row(x, 0, 0, 3);
        Check.due("its measure ran", x.kinds(0, 0), SLUICE);
        Check.due("its measure, which is all", x.kinds(1, 0), 63);
        Make.row(x, 0, 4, 9, 0, 4);
        Check.due("all that came", x.kinds(0, 0), REACH | WEIR | MILL | FAIR);
        Make.row(x, 0, 4, 9, 0, 3);
        Check.due("one less", x.kinds(0, 0), POND);
        Make.row(x, 0, 0, 9, 0, 0);
        Check.due("none came", x.kinds(0, 0), REACH | WEIR | MILL | POND | FAIR);
        Make.row(x, 0, 99, 3, 0, 3);
        Check.due("much came", x.kinds(0, 0), SLUICE);
        Make.row(x, 0, 99, 3, 99, 99);
        Check.due("by none", x.kinds(0, 0), 0);
        Make.row(x, 0, 0, 5);
        Check.due("its water now", x.kinds(2, 0), REACH | WEIR | MILL | POND | FAIR);
        x.day(0);
        Make.row(x, 0, 0, 2);
        Check.due("3 came to the pond, 1 was lost", x.kinds(2, 0), 63);
        x.row(0, 20);
        Check.due("ten days", x.kinds(0, 0), 63);
        Check.due("asked", x.asked(), 0);
    }

    private static void measures() {
        RiverDays x = Make.river("y0000000o0000000s39a14s14");
        x.row(0, 0);
        Check.due("no days", x.measures(0, 0), 1022);
        Make.row(x, 0, 0, 4);
        Check.due("one", x.measures(0, 0), 1 << 4);
        Check.due("any, no sluice", x.measures(1, 0), 1022);
        Check.due("four or more", x.measures(2, 0), 1022 & ~14);
        Make.row(x, 0, 0, 9);
        Check.due("nine", x.measures(0, 0), 1 << 9);
        Check.due("none", x.measures(1, 0), 0);
        Make.row(x, 0, 8, 4, 0, 7);
        Check.due("four, then more", x.measures(2, 0), 1 << 7);
        Make.row(x, 0, 8, 4, 0, 8);
        Check.due("four, then all", x.measures(2, 0), 1 << 8 | 1 << 9);
        Make.row(x, 0, 0, 3, 0, 3, 0, 3, 0, 0);
        Check.due("till it is empty", x.measures(0, 0), 1 << 3);
        Make.row(x, 0, 99, 2, 0, 2, 0, 2);
        Check.due("two", x.measures(0, 0), 1 << 2);
        RiverDays p = Make.river("y0000000o0000000p35");
        Make.row(p, 0, 3, 5, 0, 2);
        Check.due("a pond, any", p.measures(0, 0), 1022);
        Make.row(p, 0, 3, 5, 0, 3);
        Check.due("a pond, none", p.measures(0, 0), 0);
    }

    private static void pairsRefused() {
        RiverDays none = new RiverDays();
        Check.due("kinds, no reach", none.kinds(0, 0), RiverDays.BAD);
        Check.due("measures, no reach", none.measures(0, 0), RiverDays.BAD);
        RiverDays x = Make.river("y0000000o0000000s39");
        Check.due("kinds, no reach", x.kinds(1, 0), RiverDays.BAD);
        Check.due("kinds, no reach", x.kinds(-1, 0), RiverDays.BAD);
        Check.due("kinds, no row", x.kinds(0, 6), RiverDays.BAD);
        Check.due("measures, no reach", x.measures(1, 0), RiverDays.BAD);
        Check.due("measures, no row", x.measures(0, -1), RiverDays.BAD);
        Check.finds("kinds, missing", x, x.kinds(0, 0), 1);
        Check.finds("measures, missing", x, x.measures(0, 0), 1);
        Make.row(x, 0, 0, 3, 100);
        Check.finds("kinds, not by pairs, ahead of unlike", x, x.kinds(0, 0), 5);
        Check.finds("measures, not by pairs", x, x.measures(0, 0), 5);
        x.row(0, 22);
        Check.finds("kinds, too many", x, x.kinds(0, 0), 5);
        Check.finds("measures, too many", x, x.measures(0, 0), 5);
        Make.row(x, 0, 100, 3);
        Check.finds("kinds, above", x, x.kinds(0, 0), 3);
        Check.finds("measures, above", x, x.measures(0, 0), 3);
        Make.row(x, 0, 0, -1);
        Check.finds("kinds, below", x, x.kinds(0, 0), 3);
        Check.finds("measures, below", x, x.measures(0, 0), 3);
        Make.row(x, 0, 99, 99);
        Check.due("99", x.kinds(0, 0), 0);
    }
}
