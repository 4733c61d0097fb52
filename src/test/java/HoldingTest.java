/** Promises 27 to 31: best, all, most, worth, duel. */
public final class HoldingTest {
    public static void main(String[] args) {
        best();
        all();
        allWithoutMills();
        most();
        worth();
        duel();
        refused();
        Check.end("HoldingTest");
    }

    private static void best() {
        // The FAIR floats above 4: of 9 WATER let 4 run on each of two DAYS.
        RiverDays x = Make.river("y0000000o0000000w59f20");
        x.row(2, 9);
        Check.due("no days", x.best(0, 2), 0);
        Make.isRow("no days", x, 2);
        Check.due("one day", x.best(1, 2), 0);
        Make.isRow("the first", x, 2, 0);
        Check.due("two days", x.best(2, 2), 1);
        Make.isRow("hold, then anything", x, 2, 1, 0);
        Check.due("three days", x.best(3, 2), 1);
        Make.isRow("the first of these", x, 2, 1, 0, 0);
        RiverDays w = Make.river("y0000000o0000000w39f29m10");
        Check.due("four days", w.best(4, 0), 4);
        Make.isRow("hold, then let", w, 0, 1, 0, 0, 0);
        RiverDays m = Make.river("y0000000o0000000s39m20a10");
        Check.due("asked stays", m.best(4, 5), 3);
        Check.due("asked stays", m.asked(), 0);
        Make.isRow("sluice open", m, 5, 0, 0, 0, 0);
        RiverDays p = Make.river("y0000000o0000000w99m30w19m10");
        Check.due("each counted", p.best(2, 0), 2);
        Check.due("kept no deeds", p.count(2), 0);
    }

    private static void all() {
        RiverDays x = Make.river("y0000000o0000000w39f24s29m19");
        Check.due("no days", x.all(0, 1), 0);
        Make.isRow("no days", x, 1);
        Check.due("one day", x.all(1, 1), 0);
        Make.isRow("one day", x, 1, 0);
        Make.row(x, 1, 5, 6, 7);
        Check.due("two days: the fair floats", x.all(2, 1), RiverDays.NONE);
        Make.isRow("none: the row is as it was", x, 1, 5, 6, 7);
        // The WEIR must be SHUT so that 4, not 9, come to the FAIR; the SLUICE may be open.
        RiverDays y = Make.river("y0000000o0000000w59f24s29m19");
        Check.due("two days", y.all(2, 3), 1);
        Make.isRow("two days", y, 3, 1, 0);
        Check.due("three days", y.all(3, 3), RiverDays.NONE);
        Check.due("asked", y.asked(), 0);
    }

    private static void allWithoutMills() {
        RiverDays x = Make.river("y0000000o0000000w39s11");
        Check.due("no mills", x.all(4, 0), 0);
        Make.isRow("nothing shut", x, 0, 0, 0, 0, 0);
        // Of two that could be held, the one of the lesser number comes first.
        RiverDays y = Make.river("y0000000o0000000w49w10f20m19m19");
        Check.isTrue("none", y.all(4, 0) == RiverDays.NONE);
        RiverDays z = Make.river("y0000000o0000000w44w14m14");
        Check.due("no need", z.all(2, 0), 0);
        Make.isRow("no need", z, 0, 0, 0);
    }

    private static void most() {
        RiverDays x = Make.river("y0000000o0100000w98");
        Check.due("no days", x.most(0, 0), 0);
        Check.due("let it run on this day", x.most(0, 1), 8);
        Check.due("nothing is theirs yet", x.most(1, 1), 0);
        Check.due("hold it till theirs", x.most(1, 2), 8);
        Check.due("none's", x.most(6, 4), 0);
        x.day(1);
        Check.due("now theirs", x.most(1, 1), 8);
        Check.due("later", x.most(0, 2), 8);
        Check.due("not this day", x.most(0, 1), 0);
        x.swap(1, 5);
        Check.due("swapped", x.most(1, 1), 0);
        RiverDays y = Make.river("y9999999o0101010w59s39");
        Check.due("a fair", y.most(1, 1), 0);
        Check.due("6 on day 0, of 3 left and 9 come", y.most(0, 1), 6);
        // Open on day 0: 9 - 3 + 9 = 15 are there on day 1; shut then: 15 - 3.
        Check.due("shut lets what is above", y.most(1, 2), 12);
    }

    private static void worth() {
        RiverDays x = Make.river("y0090000o0000000m10");
        Check.due("without day 2", x.worth(7), 2);
        Check.due("never", x.asked(), 0);
        Check.due("too early to tell", x.worth(3), 0);
        Check.due("never", x.asked(), 0);
        RiverDays y = Make.river("y1191111o0000000m20m90");
        Check.due("without day 2", y.worth(6), 2);
        Check.due("never", y.asked(), 0);
        Check.due("no days", y.worth(0), 0);
        Check.due("never", y.asked(), 0);
        RiverDays z = Make.river("y0304050o0000000m19f30");
        Check.due("the first of two", z.worth(20), 1);
        Check.due("how often", z.asked(), 11);
        z.day(0);
        z.day(0);
        Check.due("from this day on", z.worth(4), 3);
        Check.due("how often", z.asked(), 2);
        // Without any one WEEKDAY's RAIN a FAIR grinds more often than with all of it.
        RiverDays f = Make.river("y9999999o0000000s89f10f40f50");
        f.row(0, 11);
        f.sea(0);
        Check.due("with all", f.asked(), 0);
        // Without that of 0 the first grinds on DAY 2 and the second on DAY 10, of 1 the first on DAY 3 alone.
        Check.due("one weekday is without", f.worth(11), 1);
        Check.due("how often", f.asked(), 1);
    }

    private static void duel() {
        // The MILL needs 9, and 4 are there.
        RiverDays x = Make.river("y0000000o0000000w94m94");
        Check.due("no days", x.duel(0), 0);
        Check.due("one", x.duel(1), 0);
        RiverDays m = Make.river("y0000000o0000000m11");
        Check.due("no days", m.duel(0), 0);
        Check.due("one", m.duel(1), 1);
        RiverDays y = Make.river("y0000000o0000000w99m90");
        Check.due("one", y.duel(1), 0);
        Check.due("let now, grinds on the second day", y.duel(2), 1);
        Check.due("three", y.duel(3), 1);
        y.day(1);
        Check.due("water stays", y.count(3), 9);
        // A FAIR of 3 .. 5: the one who wants much can't keep the other one from letting too much run.
        RiverDays z = Make.river("y0000000o0000000w49f30");
        Check.due("two", z.duel(2), 1);
        Check.due("three", z.duel(3), 1);
        RiverDays v = Make.river("y0000000o0000000a15w59f30");
        Check.due("three", v.duel(3), 1);
        v.day(2);
        Check.due("held, and held again", v.duel(2), 2);
        Check.due("asked stays", x.asked(), 0);
    }

    private static void refused() {
        RiverDays none = new RiverDays();
        Check.due("best, no reaches", none.best(4, 5), RiverDays.STATE);
        Check.due("all, no reaches", none.all(0, 0), RiverDays.STATE);
        Check.due("most, no reaches", none.most(6, 4), RiverDays.STATE);
        Check.due("worth, no reaches", none.worth(20), RiverDays.STATE);
        Check.due("duel, no reaches", none.duel(3), RiverDays.STATE);
        Check.due("no rows made", none.count(8), 0);
        RiverDays x = Make.river("y0000000o0000000w94m94");
        for (RiverDays y : new RiverDays[] {none, x}) {
            Check.due("best 5", y.best(5, 0), RiverDays.BAD);
            Check.due("best -1", y.best(-1, 0), RiverDays.BAD);
            Check.due("best, no row", y.best(1, 6), RiverDays.BAD);
            Check.due("best, no row", y.best(1, -1), RiverDays.BAD);
            Check.due("all 5", y.all(5, 0), RiverDays.BAD);
            Check.due("all -1", y.all(-1, 0), RiverDays.BAD);
            Check.due("all, no row", y.all(1, 6), RiverDays.BAD);
            Check.due("all, no row", y.all(1, -1), RiverDays.BAD);
            Check.due("most 5", y.most(0, 5), RiverDays.BAD);
            Check.due("most -1", y.most(0, -1), RiverDays.BAD);
            Check.due("most, no village", y.most(7, 1), RiverDays.BAD);
            Check.due("most, no village", y.most(-1, 1), RiverDays.BAD);
            Check.due("worth 21", y.worth(21), RiverDays.BAD);
            Check.due("worth -1", y.worth(-1), RiverDays.BAD);
            Check.due("duel 4", y.duel(4), RiverDays.BAD);
            Check.due("duel -1", y.duel(-1), RiverDays.BAD);
        }
    }
}
