import java.util.Random;

/** A random run of calls, good ones and wrong ones, on Twins. */
final class RandomRun {
    private static final int[] EDGES = {-1, 0, 1, 2, 3, 4, 5, 6, 7, 10, 11, 12, 13, 20, 21, 39, 40, 41, 60, 61, 99, 100,
        999, 1000, Integer.MAX_VALUE, Integer.MAX_VALUE - 1, Integer.MIN_VALUE, -128, 255};
    /** Calls by names; those that stand more often are called more often. */
    private static final String[] CALLS = {"row", "lay", "at", "tear", "copy", "mean", "text", "put", "fault", "river",
        "reach", "mark", "mark", "weekday", "swap", "owns", "day", "day", "day", "day", "undo", "keep", "on", "gates",
        "runs", "sea", "sea", "water", "share", "grinds", "best", "all", "all", "most", "worth", "duel", "ways", "first",
        "kinds", "measures", "mid", "odds", "lots", "count", "findings"};

    final Twins twins = new Twins();
    private final Model model = twins.model;
    private final Random random;

    RandomRun(long seed) {
        random = new Random(seed);
    }

    /** Comparing what is told takes calls, too: it is done behind one step of so many. */
    void go(int steps, int stepsTillCompared) {
        write(random.nextInt(4), riverText());
        for (int step = 1; step <= steps && !twins.isSpent() && !twins.isWrong(); step++) {
            int what = random.nextInt(40);
            if (what == 0) {
                write(random.nextInt(4), riverText());
            } else if (what < 6) {
                fillRow(random.nextInt(6), random.nextInt(4));
            } else {
                String name = CALLS[random.nextInt(CALLS.length)];
                twins.call(name, arguments(name));
            }
            if (step % stepsTillCompared == 0) {
                twins.compare();
            }
        }
    }

    private String riverText() {
        StringBuilder s = new StringBuilder();
        blanks(s);
        s.append('y');
        figures(s, 7, random.nextInt(10) + 1);
        blanks(s);
        s.append('o');
        figures(s, 7, random.nextInt(7) + 1);
        if (random.nextInt(4) == 0) {
            gatesAndFairs(s);
            return s.toString();
        }
        int reaches = 1 + random.nextInt(6);
        int gates = 0;
        String letters = random.nextInt(3) == 0 ? "wpsf" : "awmpsf";
        for (int i = 0; i < reaches; i++) {
            char c = letters.charAt(random.nextInt(letters.length()));
            if ("wps".indexOf(c) >= 0 && ++gates > 3) {
                c = random.nextBoolean() ? 'm' : 'f';
            }
            blanks(s);
            s.append(c).append((char) ('1' + random.nextInt(random.nextBoolean() ? 9 : 4)));
            figures(s, 1, 10);
        }
        blanks(s);
        if (random.nextInt(4) == 0) {
            int i = random.nextInt(s.length());
            s.setCharAt(i, "awmpsfyo0123456789 x".charAt(random.nextInt(20)));
        }
        if (random.nextInt(8) == 0) {
            s.setLength(random.nextInt(s.length() + 1));
        }
        if (random.nextInt(8) == 0) {
            s.append("w11 s22 m33 a44 p55 f66".substring(random.nextInt(20)));
        }
        s.setLength(Math.min(s.length(), 60));
        return s.toString();
    }

    /** REACHES by which it matters what is SHUT: FAIRS that want little of what is held. */
    private void gatesAndFairs(StringBuilder s) {
        int pairs = 1 + random.nextInt(2);
        for (int i = 0; i < pairs; i++) {
            s.append("wps".charAt(random.nextInt(3))).append((char) ('3' + random.nextInt(5))).append(9 - i);
            s.append("fffm".charAt(random.nextInt(4))).append((char) ('1' + random.nextInt(3)));
            s.append((char) ('2' + random.nextInt(3)));
        }
    }

    private void blanks(StringBuilder s) {
        s.append("   ", 0, random.nextInt(4) == 0 ? random.nextInt(4) : 0);
    }

    private void figures(StringBuilder s, int n, int bound) {
        for (int i = 0; i < n; i++) {
            s.append((char) ('0' + random.nextInt(bound)));
        }
    }

    private void write(int t, String signs) {
        twins.write(t, signs);
        twins.call("fault", t);
        twins.call("river", t);
    }

    /** A ROW of sets, of what comes to the sea by some PLAN, or of pairs of one REACH. */
    private void fillRow(int r, int what) {
        int n = what == 2 ? 2 * random.nextInt(6) : random.nextInt(5) + (what == 0 ? random.nextInt(9) : 0);
        twins.call("row", r, n);
        RiverDays twin = what == 1 ? twin() : null;
        int guess = random.nextInt(3) == 0 ? 99 : 9;
        int w = 0;
        for (int i = 0; i < n; i++) {
            int v = random.nextInt(10);
            if (what == 0) {
                v = someSet();
            } else if (what == 1 && twin != null) {
                v = twin.day(someSet());
            } else if (what == 2) {
                v = i % 2 == 0 ? random.nextInt(guess + 1) : w;
                w = i % 2 == 0 ? Math.max(0, v - random.nextInt(2)) : w;
            }
            twins.call("lay", r, i, v);
        }
        if (what == 2 && n > 1) {
            int i = random.nextInt(Math.max(1, model.count(0)));
            twins.call("reach", i, random.nextBoolean() ? 1 : 2);
            twins.call("lay", r, 1, model.asked());
            twins.call("kinds", i, r);
            twins.call("measures", i, r);
        } else if (what == 1) {
            twins.call("ways", r);
            twins.call("first", r, random.nextInt(6));
        } else {
            twins.call("sea", r);
            twins.call("mid", r, random.nextInt(13));
            twins.call("odds", r, random.nextInt(5), random.nextInt(13));
        }
    }

    /** The RIVER as it is now, in another object, without what was RAIN: DAYS from 0 on. */
    private RiverDays twin() {
        int n = model.count(0);
        if (n == 0) {
            return null;
        }
        StringBuilder s = new StringBuilder("y");
        for (int d = 0; d < 7; d++) {
            s.append(model.weekday((model.count(1) + d) % 7, 0));
        }
        s.append("o0000000");
        for (int i = 0; i < n; i++) {
            s.append("awmpsf".charAt(model.ofReach(i, 0))).append(model.ofReach(i, 1));
            s.append(Math.min(9, model.ofReach(i, 2)));
        }
        RiverDays twin = new RiverDays();
        Make.text(twin, 0, s.toString());
        return twin.river(0) > 0 ? twin : null;
    }

    private int someSet() {
        int set = random.nextInt(64) & random.nextInt(64);
        return random.nextInt(12) == 0 ? set : set & model.gates();
    }

    private int[] arguments(String name) {
        int n = Twins.parameters(name);
        int[] arguments = new int[n];
        for (int k = 0; k < n; k++) {
            boolean wild = random.nextInt(15) == 0;
            arguments[k] = wild ? EDGES[random.nextInt(EDGES.length)] : usual(name, k);
        }
        return arguments;
    }

    private int usual(String name, int k) {
        switch (name) {
            case "day": case "runs": return someSet();
            case "undo": return random.nextInt(model.count(2) + 1);
            case "keep": case "on": return random.nextInt(3);
            case "reach": case "water": case "kinds": case "measures": case "grinds": case "mark":
                return k == 0 ? random.nextInt(Math.max(1, model.count(0))) : random.nextInt(6);
            case "best": case "all": return random.nextInt(k == 0 ? 5 : 6);
            case "most": return random.nextInt(k == 0 ? 7 : 5);
            case "duel": return random.nextInt(4);
            case "weekday": return random.nextInt(k == 0 ? 7 : 2);
            case "row": return k == 0 ? random.nextInt(6) : random.nextInt(14);
            case "text": return k == 0 ? random.nextInt(4) : random.nextInt(61);
            case "put": return k == 0 ? random.nextInt(4) : k == 1 ? random.nextInt(40) : random.nextInt(500) - 200;
            case "lots": return k == 0 ? 1 + random.nextInt(7) : 1 + random.nextInt(Integer.MAX_VALUE - 1);
            case "lay": return k == 2 ? random.nextInt(9) * (random.nextInt(9) + 1) : random.nextInt(5);
            case "count": return random.nextInt(12) - 1;
            case "worth": return random.nextInt(22) - 1;
            case "fault": case "river": return random.nextInt(5);
            case "mid": case "odds": return random.nextInt(k == 0 ? 6 : k == 1 && name.equals("odds") ? 5 : 13);
            default: return random.nextInt(7);
        }
    }
}
