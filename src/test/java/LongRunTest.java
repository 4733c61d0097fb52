import java.util.Set;
import java.util.TreeSet;

/**
 * "An object is used for at most 512 calls after it has been made": what is promised holds up to the 512th, however
 * often a call was made before.
 */
public final class LongRunTest {
    private static final int RANDOM_RUNS = 250;
    private static final int FIRST_SEED = 1_000_000;
    /** Each call of the face once, as the last one of an object. */
    private static final String[] LAST = {
        "row(5, 40)", "lay(1, 3, -7)", "at(0, 1)", "tear(2)", "copy(1, 0, 1, 1, 4)", "mean(1)", "text(3, 60)",
        "put(1, 2, 200)", "fault(1)", "river(0)", "reach(5, 4)", "mark(3, 4)", "weekday(6, 1)", "swap(0, 6)", "owns(2)",
        "day(12)", "undo(5)", "keep(2)", "on(1)", "gates()", "runs(9)", "sea(0)", "water(4, 0)", "share(3, 0)",
        "grinds(4)", "best(4, 3)", "all(3, 4)", "most(1, 4)", "worth(20)", "duel(3)", "ways(2)", "first(2, 5)",
        "kinds(3, 3)", "measures(3, 3)", "mid(0, 5)", "odds(0, 3, 7)", "lots(9, 2147483646)", "asked()", "upper()",
        "lower()", "count(5)", "finding()", "findings(3)", "digest()",
    };

    public static void main(String[] args) {
        randomRuns();
        eachCallComesLast();
        findingsAreCounted();
        deedsComeAndGo();
        riversComeAnew();
        rowsComeAndGo();
        searchesAnswerAlike();
        Check.end("LongRunTest");
    }

    private static void randomRuns() {
        for (int seed = FIRST_SEED; seed < FIRST_SEED + RANDOM_RUNS; seed++) {
            RandomRun run = new RandomRun(seed);
            run.go(Twins.CALLS, 10);
            run.twins.end("long run " + seed);
            if (run.twins.isWrong()) {
                return;
            }
            Check.due("calls of run " + seed, run.twins.made(), 512);
        }
    }

    private static void eachCallComesLast() {
        Set<String> names = new TreeSet<>();
        for (String last : LAST) {
            Twins twins = new Twins();
            liveTill(twins, Twins.CALLS - 1);
            twins.callAs(last);
            twins.end("512th call " + last);
            Check.due("calls till " + last, twins.made(), 512);
            names.add(last.substring(0, last.indexOf('(')));
        }
        Check.due("calls that came last", names.size(), Twins.names().size());
    }

    /** ROW 0 is a PLAN, 2 what came to the sea by one, 3 pairs; TEXT 1 has a FAULT. */
    private static void liveTill(Twins twins, int calls) {
        twins.write(0, Make.EVERY_KIND);
        twins.write(1, "y12 ");
        twins.call("river", 0);
        twins.lay(0, 1, 0, 12, 5);
        twins.lay(1, 9, 8, 7, 6, 5);
        twins.lay(2, 0);
        twins.lay(3, 7, 2, 0, 2, 4, 2);
        for (int k = 0; twins.made() < calls - 10; k++) {
            liveOneRound(twins, k);
        }
        for (int k = 0; twins.made() < calls; k++) {
            twins.call("day", k % 2 == 0 ? 8 : 5);
        }
    }

    private static void liveOneRound(Twins twins, int k) {
        twins.call("lots", 1 + k % 20, 77 + k);
        twins.call("day", k % 14 & 13);
        twins.call("keep", k % 2);
        twins.call("swap", k % 7, (k + 3) % 7);
        twins.call("mid", 0, k % 13);
        twins.call("undo", k % 11);
        twins.call("mark", k % 6, 1 + k % 5);
        twins.call("on", k % 3);
        twins.call("worth", k % 21);
    }

    private static void findingsAreCounted() {
        for (int f = 1; f <= 5; f++) {
            RiverDays x = new RiverDays();
            x.row(0, 0);
            Make.text(x, 0, "y0000000o0000000a10");
            x.river(0);
            int made = 2 + 1 + 19;
            int due = 512 - 2 - made;
            for (int k = 0; k < due; k++) {
                Check.due("refused", findOnce(x, f), RiverDays.FINDING);
            }
            Check.due("findings(" + f + ") at the 511th call", x.findings(f), due);
            Check.due("finding() at the 512th call", x.finding(), f);
        }
    }

    private static int findOnce(RiverDays x, int f) {
        switch (f) {
            case Refused.NOTHING: return x.tear(5);
            case Refused.BEYOND: return x.at(0, 0);
            case Refused.UNLIKE: return x.mark(0, 1);
            case Refused.NOUGHT: return x.mean(0);
            default: return x.row(1, -1);
        }
    }

    /** 40 DEEDS, again and again: FULL is by how many there are, not by how many there were. */
    private static void deedsComeAndGo() {
        Twins twins = new Twins();
        twins.write(0, Make.EVERY_KIND);
        twins.call("river", 0);
        for (int k = 0; !twins.isSpent(); k++) {
            twins.call("lots", 20, 1 + k);
            twins.call("lots", 19, 2147483646 - k);
            twins.call("lots", 2, 5);
            twins.call("keep", k % 3);
            twins.call("day", 13);
            twins.call("day", 0);
            twins.call("undo", 40 - k % 41);
            twins.call("digest");
            twins.call("on", (k + 1) % 3);
            twins.call("count", 5);
            twins.call("undo", 0);
            twins.call("count", 3);
        }
        twins.end("40 DEEDS, again and again");
        Check.due("calls with DEEDS", twins.made(), 512);
    }

    /** Of what was ahead of river() nothing stays: the digest is that of an object that begins so. */
    private static void riversComeAnew() {
        RiverDays x = Make.river(Make.EVERY_KIND);
        RiverDays young = Make.river(Make.EVERY_KIND);
        int made = 1 + Make.EVERY_KIND.length() + 2;
        for (; made + 7 + 3 <= 512; made += 7) {
            x.day(made % 2 == 0 ? 13 : 0);
            x.keep(made % 3);
            x.lots(20, made);
            x.swap(made % 7, (made + 1) % 7);
            x.undo(made % 5);
            x.keep(1);
            Check.due("river, call " + (made + 7), x.river(0), 6);
        }
        Check.due("lots behind many RIVERS", x.lots(20, 9), young.lots(20, 9));
        Check.due("digest behind many RIVERS", x.digest(), young.digest());
    }

    private static void rowsComeAndGo() {
        Twins twins = new Twins();
        for (int k = 0; !twins.isSpent(); k++) {
            twins.call("row", k % 6, 40 - k % 5);
            twins.call("lay", k % 6, 35, Integer.MAX_VALUE - k);
            twins.call("text", k % 4, 60 - k % 7);
            twins.call("put", k % 4, 53, k);
            twins.call("copy", k % 6, 0, k % 6, 1, 35);
            twins.call("mean", k % 6);
            twins.call("tear", (k + 2) % 6);
            twins.call("digest");
        }
        twins.end("ROWS and TEXTS, again and again");
        Check.due("calls with ROWS", twins.made(), 512);
    }

    /** What is only asked leaves nothing behind: the same call answers the same, and tells the same. */
    private static void searchesAnswerAlike() {
        String[] calls = {"best(4, 2)", "all(4, 3)", "most(2, 4)", "duel(3)", "odds(0, 2, 5)", "mid(0, 7)", "ways(1)",
            "first(1, 4)", "worth(20)", "grinds(1)", "share(0, 0)", "kinds(3, 1)"};
        for (String call : calls) {
            RiverDays x = Make.river("y9090909o0123456w47m33p58s29f42m31");
            Make.row(x, 0, 13, 13, 13, 13);
            Make.row(x, 1, 1, 3);
            long due = Call.on(x, call);
            int asked = x.asked();
            long upper = x.upper();
            long lower = x.lower();
            int made = 1 + 34 + 2 + 5 + 3 + 4;
            for (; made < 512 - 3; made++) {
                Check.due(call + " again", Call.on(x, call), due);
            }
            Check.due(call + ": asked() at the 510th call", x.asked(), asked);
            Make.fraction(call + ": at the 511th, 512th call", x, upper, lower);
        }
    }
}
