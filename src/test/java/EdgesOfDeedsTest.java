import java.util.List;
import java.util.function.Supplier;

/** How a DAY passes, and promises 17 to 20, sentence by sentence: day, undo, keep, on. */
public final class EdgesOfDeedsTest {
    private static final String NO_RAIN = "y0000000o0000000";

    public static void main(String[] args) {
        allAtOnce();
        letsAllRun();
        shutLetsWhatIsAbove();
        openSluice();
        rainForTheSpring();
        pondLosesOne();
        onlyPondsLose();
        ninetyNineAtTheSpring();
        ninetyNineFartherDown();
        ninetyNineOfAPond();
        millGrinds();
        fairFloats();
        fairFloatsHigh();
        weekdaysBySevens();
        setsThatCanBeShut();
        dayRefused();
        fortyDeeds();
        roomAgain();
        undoNumbers();
        undoIsAsItWas();
        undoLeavesOwners();
        undoWithoutReaches();
        keepPlaces();
        keepIsApart();
        keepLeavesOwners();
        keepRefused();
        onStays();
        onRefused();
        Check.end("EdgesOfDeedsTest");
    }

    private static void water(String what, RiverDays x, int... due) {
        for (int i = 0; i < due.length; i++) {
            Check.due(what + ": water of " + i, Make.of(x, i, 2), due[i]);
        }
    }

    /** "all at once, by the WATER that each has": it comes one REACH on in a DAY. */
    private static void allAtOnce() {
        RiverDays x = Make.river(NO_RAIN + "a19a10m10a10");
        int[] came = {0, 0, 0, 9, 0};
        int[][] water = {{0, 9, 0, 0}, {0, 0, 9, 0}, {0, 0, 0, 9}, {0, 0, 0, 0}, {0, 0, 0, 0}};
        for (int d = 0; d < 5; d++) {
            Call.due(x, "day(0)", came[d]);
            water("DAY " + d, x, water[d]);
        }
    }

    private static void one(String reach, int shut, int came, int left) {
        RiverDays x = Make.river(NO_RAIN + reach);
        Check.due("day(" + shut + ") of " + reach, x.day(shut), came);
        Check.due("left of " + reach, Make.of(x, 0, 2), left);
        Check.due("ran of " + reach, Make.of(x, 0, 4), came);
    }

    /** "a REACH lets all of it run .. (the last one: to the sea)"; also a WEIR, a POND that is not SHUT */
    private static void letsAllRun() {
        for (String letter : new String[] {"a", "w", "m", "p", "f"}) {
            for (int water = 0; water <= 9; water++) {
                one(letter + "5" + water, 0, water, 0);
            }
        }
    }

    /** "a WEIR (POND, SLUICE, too) that is SHUT only what is above its MEASURE" */
    private static void shutLetsWhatIsAbove() {
        for (String letter : new String[] {"w", "p", "s"}) {
            for (int water = 0; water <= 9; water++) {
                int stays = Math.min(5, water);
                one(letter + "5" + water, 1, water - stays, letter.equals("p") ? Math.max(0, stays - 1) : stays);
            }
        }
    }

    /** "a SLUICE that is not SHUT its MEASURE at most" */
    private static void openSluice() {
        for (int water = 0; water <= 9; water++) {
            one("s5" + water, 0, Math.min(5, water), Math.max(0, water - 5));
        }
    }

    /** "Then the spring REACH has the DAY's RAIN more, each other one what ran to it" */
    private static void rainForTheSpring() {
        RiverDays x = Make.river("y3000000o0000000w96s29a14");
        Call.due(x, "day(1)", 4);
        water("shut", x, 9, 7, 2);
        Call.due(x, "day(3)", 2);
        water("no rain on DAY 1", x, 9, 2, 5);
    }

    /** "then a POND loses 1 (if it has WATER)": behind what comes to it */
    private static void pondLosesOne() {
        one("p90", 1, 0, 0);
        one("p91", 1, 0, 0);
        one("p92", 1, 0, 1);
        one("p99", 1, 0, 8);
        int[] left = {0, 0, 1, 2};
        for (int rain = 0; rain <= 3; rain++) {
            RiverDays x = Make.river("y" + rain + "000000o0000000p90");
            x.day(1);
            Check.due("rain of " + rain, Make.of(x, 0, 2), left[rain]);
            RiverDays down = Make.river(NO_RAIN + "a1" + rain + "p90");
            down.day(2);
            Check.due("what ran to it: " + rain, Make.of(down, 1, 2), left[rain]);
        }
        RiverDays open = Make.river("y1000000o0000000p95");
        Call.due(open, "day(0)", 5);
        Check.due("it let all run, and 1 came", Make.of(open, 0, 2), 0);
    }

    private static void onlyPondsLose() {
        for (String letter : new String[] {"a", "w", "m", "s", "f"}) {
            RiverDays x = Make.river("y2000000o0000000" + letter + "90");
            x.day(0);
            Check.due("the rain in " + letter, Make.of(x, 0, 2), 2);
        }
        one("w95", 1, 0, 5);
        one("s95", 1, 0, 5);
    }

    /** "WATER is 99 at most (what is above is gone)": 8 more each DAY, 98, 99, 100, 101 behind the twelfth */
    private static void ninetyNineAtTheSpring() {
        int[] due = {98, 99, 99, 99};
        for (int w = 2; w <= 5; w++) {
            RiverDays x = Make.river("y9999999o0000000s1" + w);
            for (int d = 0; d < 11; d++) {
                x.day(0);
            }
            Check.due("behind 11 DAYS", Make.of(x, 0, 2), w + 88);
            x.day(0);
            Check.due("behind 12 DAYS", Make.of(x, 0, 2), due[w - 2]);
            Check.due("what is above is gone", x.runs(1), due[w - 2] - 1);
        }
    }

    private static RiverDays fullSluiceAbove(String reach) {
        RiverDays x = Make.river("y9999999o0000000s19" + reach);
        for (int d = 0; d < 13; d++) {
            x.day(0);
        }
        Check.due("full", Make.of(x, 0, 2), 99);
        return x;
    }

    private static void ninetyNineFartherDown() {
        // Each DAY 1 ran to the WEIR, and from it; now it holds 0, 1, 2, 3 while 98 come.
        RiverDays open = fullSluiceAbove("w90");
        open.day(1);
        Check.due("98", Make.of(open, 1, 2), 98);
        for (int held = 1; held <= 3; held++) {
            RiverDays x = fullSluiceAbove("w90");
            x.undo(14 - held);
            for (int d = 1; d < held; d++) {
                x.day(2);
            }
            Check.due("held", Make.of(x, 1, 2), held);
            x.day(3);
            Check.due("99 at most", Make.of(x, 1, 2), 99);
            Call.due(x, "day(0)", 99);
            // 10 were in the SLUICE, 1 ran, 9 came; the WEIR has the 1.
            Call.due(x, "count(3)", 18 + 1);
        }
    }

    /** The sentences as they stand: a POND loses 1, then what is above 99 is gone. */
    private static void ninetyNineOfAPond() {
        RiverDays x = fullSluiceAbove("p90");
        x.undo(9);
        for (int d = 9; d < 13; d++) {
            x.day(2);
        }
        Check.due("a POND to which 1 comes each DAY has none", Make.of(x, 1, 2), 0);
        x.day(3);
        Check.due("98 came, 1 was lost", Make.of(x, 1, 2), 97);
        RiverDays y = Make.river("y9999999o0000000s29p99");
        for (int d = 0; d < 13; d++) {
            y.day(2);
        }
        // Each DAY 9 stay in the POND, 2 come, 1 is lost.
        Check.due("full", Make.of(y, 0, 2), 99);
        Check.due("the POND", Make.of(y, 1, 2), 10);
        y.day(3);
        Check.due("9 stayed, 97 came, 1 was lost, 6 are gone", Make.of(y, 1, 2), 99);
    }

    private static int ground(String reach) {
        RiverDays x = Make.river(NO_RAIN + reach);
        x.day(0);
        Check.due("count(5)", x.count(5), Make.of(x, 0, 3));
        return Make.of(x, 0, 3);
    }

    /** "A MILL GRINDS on a DAY, if what runs from it is its MEASURE or more" */
    private static void millGrinds() {
        for (int measure = 1; measure <= 9; measure++) {
            for (int water = 0; water <= 9; water++) {
                Check.due("m" + measure + water, ground("m" + measure + water), water >= measure ? 1 : 0);
                for (String letter : new String[] {"a", "w", "p", "s"}) {
                    Check.due(letter + measure + water, ground(letter + measure + water), 0);
                }
            }
        }
    }

    /** "a FAIR (it floats) GRINDS only if that is not above its MEASURE and 2 more" */
    private static void fairFloats() {
        for (int measure = 1; measure <= 9; measure++) {
            for (int water = 0; water <= 9; water++) {
                boolean grinds = water == measure || water == measure + 1 || water == measure + 2;
                Check.due("f" + measure + water, ground("f" + measure + water), grinds ? 1 : 0);
            }
        }
    }

    /** 9, 11, 12 come to a FAIR of 9, a MILL of 9: the FAIR GRINDS by 11, no more by 12. */
    private static void fairFloatsHigh() {
        int[] rains = {0, 2, 3};
        int[] due = {1, 1, 0};
        for (int k = 0; k < 3; k++) {
            RiverDays x = Make.river("y" + rains[k] + "000000o0000000w99f90m90");
            x.day(1);
            x.day(0);
            x.day(0);
            x.day(0);
            Check.due("came to the FAIR", Make.of(x, 1, 4), 9 + rains[k]);
            Check.due("the FAIR", Make.of(x, 1, 3), due[k]);
            Check.due("the MILL", Make.of(x, 2, 3), 1);
        }
    }

    /** "DAYS are 0, 1, .. (WEEKDAYS by sevens)": RAIN and owners, till the last DAY there may be. */
    private static void weekdaysBySevens() {
        RiverDays x = Make.river("y1234567o6543210a10");
        int[] owned = new int[7];
        for (int d = 0; d < 40; d++) {
            Call.due(x, "count(1)", d);
            int came = d == 0 ? 0 : (d - 1) % 7 + 1;
            Call.due(x, "day(0)", came);
            owned[6 - d % 7] += came;
            Check.due("the rain of DAY " + d, Make.of(x, 0, 2), d % 7 + 1);
            Call.due(x, "owns(" + (6 - d % 7) + ")", owned[6 - d % 7]);
        }
        Call.due(x, "count(1)", 40);
    }

    /** "BAD: also one that can't be SHUT": each set of REACHES, and each bit beyond them. */
    private static void setsThatCanBeShut() {
        for (int set = -1; set <= 64; set++) {
            RiverDays x = Make.river(Make.EVERY_KIND);
            boolean good = set == 0 || set == 1 || set == 4 || set == 5 || set == 8 || set == 9 || set == 12 || set == 13;
            Check.due("runs(" + set + ")", x.runs(set) >= 0 ? 1 : x.runs(set), good ? 1 : RiverDays.BAD);
            Check.due("day(" + set + ")", x.day(set) >= 0 ? 1 : x.day(set), good ? 1 : RiverDays.BAD);
            Call.due(x, "count(2)", good ? 1 : 0);
        }
        for (int bit = 6; bit < 32; bit++) {
            int set = 1 << bit;
            Refused.bad(Stand.RICH, "day(" + set + ")", "day(" + (set | 13) + ")", "runs(" + set + ")");
        }
    }

    /** "BAD ..; STATE: no REACHES; FULL: 40 DEEDS. (FULL last.)" of day() */
    private static void dayRefused() {
        Refused.bad(Stand.RICH, "day(2)", "day(16)", "day(32)", "day(15)", "day(-1)", "day(MIN)", "day(MAX)");
        Refused.state(Stand.DRY, "day(0)");
        Refused.bad(Stand.DRY, "day(1)", "day(-1)", "day(MIN)");
        Refused.full(Stand.FULL, "day(0)", "day(13)");
        Refused.bad(Stand.FULL, "day(2)", "day(64)", "day(-1)");
    }

    /** "These are DEEDS 0, 1, .. (40 at most)" */
    private static void fortyDeeds() {
        RiverDays x = Make.river("y1111111o0000000w59");
        for (int d = 0; d < 39; d++) {
            x.day(d % 2);
        }
        Call.due(x, "count(2)", 39);
        Check.isTrue("the fortieth", x.day(0) >= 0);
        Call.due(x, "count(2)", 40);
        Call.due(x, "day(0)", RiverDays.FULL);
        Call.due(x, "count(2)", 40);
        Call.due(x, "count(1)", 40);
    }

    /** Behind undo(), on(), river() there is room again. */
    private static void roomAgain() {
        RiverDays x = Stand.FULL.get();
        Call.due(x, "undo(39)", 1);
        Check.isTrue("one more", x.day(0) >= 0);
        Call.due(x, "day(0)", RiverDays.FULL);
        Call.due(x, "keep(1)", 40);
        Call.due(x, "on(0)", 2);
        Check.isTrue("38 more", x.lots(18, 1) >= 0 && x.lots(20, 1) >= 0);
        Call.due(x, "day(0)", RiverDays.FULL);
        Call.due(x, "on(1)", 40);
        Call.due(x, "day(0)", RiverDays.FULL);
        Call.due(x, "undo(0)", 40);
        Check.isTrue("one", x.day(0) >= 0);
        Call.due(x, "river(0)", 6);
        Check.isTrue("one", x.day(0) >= 0);
        Call.due(x, "count(2)", 1);
    }

    /** "DEEDS from number n on are undone: how many. BAD." */
    private static void undoNumbers() {
        int[] undone = {40, 39, 2, 1, 0};
        int[] from = {0, 1, 38, 39, 40};
        for (int k = 0; k < from.length; k++) {
            RiverDays x = Stand.FULL.get();
            Call.due(x, "undo(" + from[k] + ")", undone[k]);
            Call.due(x, "count(2)", from[k]);
            Call.due(x, "count(1)", from[k]);
        }
        Refused.bad(Stand.FULL, "undo(-1)", "undo(41)", "undo(MIN)", "undo(MAX)");
        Refused.bad(Stand.RICH, "undo(-1)", "undo(6)", "undo(40)");
        Call.due(Stand.RICH.get(), "undo(5)", 0);
        Call.due(Stand.RICH.get(), "undo(4)", 1);
    }

    /** "(what came to the sea, too ..)": all is as it was ahead of DEED n. */
    private static void undoIsAsItWas() {
        RiverDays x = Make.river(Make.EVERY_KIND);
        int[] sets = {0, 13, 5, 8, 1, 12, 4, 9, 0, 13};
        long[] was = new long[11];
        for (int d = 0; d <= 10; d++) {
            was[d] = x.digest();
            if (d < 10) {
                x.day(sets[d]);
            }
        }
        for (int n = 10; n >= 0; n--) {
            RiverDays y = Make.river(Make.EVERY_KIND);
            for (int d = 0; d < 10; d++) {
                y.day(sets[d]);
            }
            Call.due(y, "undo(" + n + ")", 10 - n);
            Check.due("as it was ahead of DEED " + n, y.digest(), was[n]);
            if (n < 10) {
                y.day(sets[n]);
                Check.due("on from there", y.digest(), was[n + 1]);
            }
        }
    }

    /** "owners of DAYS stay" */
    private static void undoLeavesOwners() {
        RiverDays x = Make.river("y5555555o0123456a15");
        x.day(0);
        x.swap(0, 6);
        x.day(0);
        Call.due(x, "undo(1)", 1);
        Call.due(x, "owns(0)", 5);
        Call.due(x, "owns(1)", 0);
        Call.due(x, "owns(6)", 0);
        Call.due(x, "undo(0)", 1);
        Call.due(x, "weekday(0, 1)", 6);
        Call.due(x, "weekday(6, 1)", 0);
        Call.due(x, "owns(0)", 0);
        x.day(0);
        Call.due(x, "owns(6)", 5);
        Call.due(x, "owns(0)", 0);
    }

    private static void undoWithoutReaches() {
        RiverDays x = Stand.DRY.get();
        List<Long> was = Refused.shown(Stand.DRY.get());
        Call.due(x, "undo(0)", 0);
        Check.isTrue("nothing changed", Refused.shown(x).equals(was));
        Refused.bad(Stand.DRY, "undo(1)", "undo(-1)");
    }

    /** "is kept in a place (0 .. 2): how many DEEDS" */
    private static void keepPlaces() {
        RiverDays x = Make.river(Make.EVERY_KIND);
        for (int k = 0; k <= 2; k++) {
            Call.due(x, "keep(" + k + ")", k);
            Call.due(x, "count(10)", k + 1);
            x.day(0);
        }
        for (int k = 2; k >= 0; k--) {
            Call.due(x, "on(" + k + ")", k);
            Call.due(x, "count(2)", k);
            Call.due(x, "count(10)", 3);
        }
        RiverDays full = Stand.FULL.get();
        Call.due(full, "keep(1)", 40);
        Call.due(full, "undo(0)", 40);
        Call.due(full, "keep(0)", 0);
        Call.due(full, "on(1)", 40);
        Call.due(full, "on(0)", 0);
    }

    /** What is kept stays as it was, whatever DAYS come or go; a place that is kept in again has the new one. */
    private static void keepIsApart() {
        RiverDays x = Make.river(Make.EVERY_KIND);
        x.day(13);
        x.day(4);
        x.keep(1);
        long kept = x.digest();
        x.day(1);
        x.undo(1);
        x.day(8);
        x.day(8);
        x.day(8);
        Call.due(x, "on(1)", 2);
        Check.due("as it was kept", x.digest(), kept);
        Call.due(x, "undo(1)", 1);
        Call.due(x, "keep(1)", 1);
        long again = x.digest();
        x.day(0);
        Call.due(x, "on(1)", 1);
        Call.due(x, "count(10)", 1);
        Check.due("kept again", x.digest(), again);
    }

    /** "(as it is, DEEDS; not owners of DAYS)" */
    private static void keepLeavesOwners() {
        RiverDays x = Make.river("y5555555o0123456a15");
        x.day(0);
        x.keep(2);
        x.swap(1, 5);
        x.day(0);
        Call.due(x, "owns(5)", 5);
        Call.due(x, "on(2)", 1);
        Call.due(x, "weekday(1, 1)", 5);
        Call.due(x, "weekday(5, 1)", 1);
        Call.due(x, "owns(0)", 5);
        Call.due(x, "owns(5)", 0);
        x.day(0);
        Call.due(x, "owns(5)", 5);
        Call.due(x, "owns(1)", 0);
        // What came ahead of a swap stays whose it was, also if that DAY was undone and passed anew.
        x.swap(0, 6);
        Call.due(x, "on(2)", 1);
        Call.due(x, "owns(0)", 5);
        Call.due(x, "owns(6)", 0);
        Call.due(x, "undo(0)", 1);
        Call.due(x, "day(0)", 5);
        Call.due(x, "owns(0)", 0);
        Call.due(x, "owns(6)", 5);
        Call.due(x, "on(2)", 1);
        Call.due(x, "owns(0)", 5);
        Call.due(x, "owns(6)", 0);
    }

    /** "BAD; STATE: no REACHES." of keep() */
    private static void keepRefused() {
        Refused.bad(Stand.RICH, "keep(-1)", "keep(3)", "keep(MIN)", "keep(MAX)");
        Refused.state(Stand.DRY, "keep(0)", "keep(2)");
        Refused.bad(Stand.DRY, "keep(-1)", "keep(3)");
    }

    /** "The RIVER is as it was kept": also twice, and undone down to its first DEED. */
    private static void onStays() {
        Supplier<RiverDays> stand = Stand.RICH;
        RiverDays once = stand.get();
        RiverDays twice = stand.get();
        Call.due(once, "on(2)", 4);
        Call.due(twice, "on(2)", 4);
        Call.due(twice, "on(0)", 2);
        Call.due(twice, "on(2)", 4);
        Check.isTrue("twice as once", Refused.shown(once).equals(Refused.shown(twice)));
    }

    /** "BAD; NOTHING." of on() */
    private static void onRefused() {
        Refused.bad(Stand.RICH, "on(-1)", "on(3)", "on(MIN)", "on(MAX)");
        Refused.finds(Refused.NOTHING, Stand.RICH, "on(1)");
        Refused.finds(Refused.NOTHING, Stand.DRY, "on(0)", "on(2)");
        Refused.bad(Stand.DRY, "on(-1)", "on(3)");
    }
}
