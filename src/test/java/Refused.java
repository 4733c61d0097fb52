import java.util.ArrayList;
import java.util.List;
import java.util.function.Supplier;

/**
 * "What is refused changes nothing but finding(), findings()": a refused call is made on one of two objects that
 * are alike, and behind it all that the two show is held side by side.
 */
final class Refused {
    static final int NOTHING = 1, BEYOND = 2, UNLIKE = 3, NOUGHT = 4, SIZE = 5;

    private Refused() {
    }

    static void bad(Supplier<RiverDays> stand, String... calls) {
        all(stand, RiverDays.BAD, 0, calls);
    }

    static void full(Supplier<RiverDays> stand, String... calls) {
        all(stand, RiverDays.FULL, 0, calls);
    }

    static void state(Supplier<RiverDays> stand, String... calls) {
        all(stand, RiverDays.STATE, 0, calls);
    }

    static void finds(int finding, Supplier<RiverDays> stand, String... calls) {
        all(stand, RiverDays.FINDING, finding, calls);
    }

    /** NONE is no refusal, but changes as little. */
    static void none(Supplier<RiverDays> stand, String... calls) {
        all(stand, RiverDays.NONE, 0, calls);
    }

    private static void all(Supplier<RiverDays> stand, int answer, int finding, String... calls) {
        for (String call : calls) {
            RiverDays x = stand.get();
            RiverDays twin = stand.get();
            Check.due(call, Call.on(x, call), answer);
            Check.due(call + ": finding()", x.finding(), finding == 0 ? twin.finding() : finding);
            for (int f = 1; f <= 5; f++) {
                Check.due(call + ": findings(" + f + ")", x.findings(f), twin.findings(f) + (f == finding ? 1 : 0));
            }
            Check.isTrue(call + " changes nothing", shown(x).equals(shown(twin)));
        }
    }

    /** All that an object shows, and what its DEEDS and its kept RIVERS have been. */
    static List<Long> shown(RiverDays x) {
        List<Long> all = new ArrayList<>(List.of((long) x.asked(), x.upper(), x.lower(), (long) x.gates(), x.digest()));
        deeds(x, all);
        for (int k = 0; k < 3; k++) {
            all.add((long) x.on(k));
            all.add(x.digest());
            deeds(x, all);
        }
        return all;
    }

    private static void deeds(RiverDays x, List<Long> all) {
        for (int n = x.count(2) - 1; n >= 0; n--) {
            all.add((long) x.undo(n));
            all.add(x.digest());
        }
    }
}
