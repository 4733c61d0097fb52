import java.util.function.Supplier;

/** Promises 8 to 11 and the language of a RIVER, sentence by sentence. */
public final class EdgesOfTextsTest {
    private static final String WEEK = "y1234567o0123456";
    private static final String LETTERS = "awmpsf";

    public static void main(String[] args) {
        textNumbers();
        textSizes();
        textAnew();
        putPlaces();
        putCut();
        putRefused();
        blanksBetween();
        blanksWithin();
        blanksAlone();
        endTooEarly();
        firstLetters();
        rainFigures();
        ownerFigures();
        reachLetters();
        measureAndWater();
        oneToSixReaches();
        seventhReach();
        fourthGate();
        firstFaultOfTwo();
        faultRefused();
        faultChangesNothing();
        riverAnew();
        riverOfFewer();
        riverRefused();
        kindsByLetters();
        Check.end("EdgesOfTextsTest");
    }

    /** "TEXTS 0 .. 3" */
    private static void textNumbers() {
        RiverDays x = new RiverDays();
        for (int t = 0; t <= 3; t++) {
            Call.due(x, "text(" + t + ", 2)", 2);
            Call.due(x, "count(9)", t + 1);
        }
        for (int t = 0; t <= 3; t++) {
            Call.due(x, "put(" + t + ", 1, " + (70 + t) + ")", 1032);
        }
        for (int t = 0; t <= 3; t++) {
            Call.due(x, "put(" + t + ", 1, 0)", 1070 + t);
            Call.due(x, "put(" + t + ", 0, 0)", 1032);
        }
        Refused.bad(Stand.RICH, "text(-1, 2)", "text(4, 2)", "text(MIN, 2)", "text(MAX, 2)");
    }

    /** "A TEXT is there with n blanks: n. BAD: also n above 60; SIZE: below 0." */
    private static void textSizes() {
        RiverDays x = new RiverDays();
        for (int n : new int[] {0, 1, 59, 60}) {
            Call.due(x, "text(2, " + n + ")", n);
            for (int i = 0; i < n; i++) {
                Call.due(x, "put(2, " + i + ", 65)", 1032);
            }
            Check.finds("no more", x, x.put(2, n, 65), Refused.BEYOND);
        }
        Refused.bad(Stand.RICH, "text(0, 61)", "text(3, 61)", "text(0, MAX)");
        Refused.finds(Refused.SIZE, Stand.RICH, "text(0, -1)", "text(3, -1)", "text(0, MIN)");
        Refused.bad(Stand.RICH, "text(4, -1)", "text(-1, -1)");
    }

    private static void textAnew() {
        RiverDays x = new RiverDays();
        Make.text(x, 0, "abc");
        Call.due(x, "text(0, 2)", 2);
        Call.due(x, "put(0, 1, 66)", 1032);
        Call.due(x, "text(0, 4)", 4);
        for (int i = 0; i < 4; i++) {
            Call.due(x, "put(0, " + i + ", 0)", 1032);
        }
        Call.due(x, "count(9)", 1);
    }

    private static void putPlaces() {
        RiverDays x = new RiverDays();
        x.text(3, 60);
        Call.due(x, "put(3, 0, 97)", 1032);
        Call.due(x, "put(3, 59, 98)", 1032);
        Call.due(x, "put(3, 0, 32)", 1097);
        Call.due(x, "put(3, 59, 32)", 1098);
        Call.due(x, "put(3, 1, 32)", 1032);
        Call.due(x, "put(3, 58, 32)", 1032);
        Check.finds("ahead", x, x.put(3, -1, 1), Refused.BEYOND);
        Check.finds("behind", x, x.put(3, 60, 1), Refused.BEYOND);
    }

    /** "cut to a byte: what it was, and 1000 more" */
    private static void putCut() {
        RiverDays x = new RiverDays();
        x.text(0, 1);
        int[] values = {0, 127, 128, 129, 255, 256, 257, 511, -1, -128, -129, -256, 1 << 16, Integer.MAX_VALUE,
            Integer.MIN_VALUE};
        int[] bytes = {0, 127, -128, -127, -1, 0, 1, -1, -1, -128, 127, 0, 0, -1, 0};
        int was = 32;
        for (int k = 0; k < values.length; k++) {
            Check.due("put " + values[k], x.put(0, 0, values[k]), 1000 + was);
            was = bytes[k];
        }
        Check.due("the last", x.put(0, 0, 0), 1000 + was);
        // 121 and 256 are y: what counts is the byte.
        Make.text(x, 1, "x2345678o0123456a11");
        Call.due(x, "fault(1)", 0);
        Check.due("put", x.put(1, 0, 121 + 256), 1000 + 'x');
        Call.due(x, "fault(1)", RiverDays.NONE);
    }

    /** "BAD; NOTHING; BEYOND." of put() */
    private static void putRefused() {
        Refused.bad(Stand.RICH, "put(-1, 0, 7)", "put(4, 0, 7)");
        Refused.finds(Refused.NOTHING, Stand.RICH, "put(2, 0, 7)", "put(2, -1, 7)", "put(2, 60, 7)");
        Refused.finds(Refused.BEYOND, Stand.RICH, "put(1, -1, 7)", "put(1, 4, 7)", "put(3, 0, 7)", "put(1, MIN, 7)",
            "put(1, MAX, 7)");
    }

    /** fault() and, by it, river(): a FAULT is STATE, and nothing came of it. */
    private static void fault(String signs, int due) {
        RiverDays x = new RiverDays();
        Make.text(x, 3, signs);
        Check.due("fault of <" + signs + ">", x.fault(3), due);
        int reaches = x.river(3);
        if (due == RiverDays.NONE) {
            Check.isTrue("river of <" + signs + ">", reaches >= 1 && reaches <= 6 && x.count(0) == reaches);
        } else {
            Check.due("river of <" + signs + ">", reaches, RiverDays.STATE);
            Check.due("no reaches of <" + signs + ">", x.count(0), 0);
        }
    }

    /** "blanks (32) ahead, between, behind as many as wanted" */
    private static void blanksBetween() {
        String[] items = {"y1234567", "o0123456", "w47", "m33"};
        int room = 60 - 22;
        for (int gap = 0; gap <= items.length; gap++) {
            for (int n : new int[] {0, 1, 2, room}) {
                StringBuilder s = new StringBuilder();
                for (int k = 0; k <= items.length; k++) {
                    s.append(k == gap ? " ".repeat(n) : "").append(k < items.length ? items[k] : "");
                }
                fault(s.toString(), RiverDays.NONE);
            }
        }
        fault("  y1234567  o0123456  a11  w12  m13  p14  s15  f16  ", RiverDays.NONE);
        fault(WEEK + "a11" + (char) 9, 19);
        fault((char) 10 + WEEK + "a11", 0);
        fault(WEEK + (char) 160 + "a11", 16);
        fault(WEEK + "a11" + (char) 0, 19);
    }

    /** "none within items": a blank more at each place. */
    private static void blanksWithin() {
        String whole = WEEK + "w47m33";
        for (int i = 0; i <= whole.length(); i++) {
            boolean between = i == 0 || i == 8 || i == 16 || i == 19 || i == 22;
            fault(whole.substring(0, i) + " " + whole.substring(i), between ? RiverDays.NONE : i);
        }
    }

    /** "the TEXT's size, if .. there are blanks alone" */
    private static void blanksAlone() {
        for (int n = 0; n <= 60; n++) {
            fault(" ".repeat(n), n);
        }
        RiverDays x = new RiverDays();
        x.text(0, 60);
        Call.due(x, "fault(0)", 60);
        x.text(0, 0);
        Call.due(x, "fault(0)", 0);
    }

    /** "the TEXT's size, if its end comes too early": each beginning of a RIVER, with a blank between items. */
    private static void endTooEarly() {
        String whole = "y1234567 o0123456 w47 m33 ";
        for (int n = 0; n <= whole.length(); n++) {
            boolean good = n == 21 || n == 22 || n == 25 || n == 26;
            fault(whole.substring(0, n), good ? RiverDays.NONE : n);
        }
        fault("y1234567" + " ".repeat(52), 60);
        fault(WEEK + " ".repeat(44), 60);
    }

    private static void sign(String signs, int place, int sign, int due) {
        StringBuilder s = new StringBuilder(signs);
        s.setCharAt(place, (char) sign);
        fault(s.toString(), due);
    }

    /** "First y (121) .., then o (111)": every other byte is a FAULT; a blank puts it off. */
    private static void firstLetters() {
        for (int c = 0; c < 256; c++) {
            sign(WEEK + "a11", 0, c, c == 121 ? RiverDays.NONE : c == 32 ? 1 : 0);
            sign(WEEK + "a11", 8, c, c == 111 ? RiverDays.NONE : c == 32 ? 9 : 8);
        }
    }

    /** "the RAIN of the seven WEEKDAYS (0 .. 9, one figure each)" */
    private static void rainFigures() {
        for (int d = 0; d < 7; d++) {
            for (int c = 0; c < 256; c++) {
                sign(WEEK + "a11", 1 + d, c, c >= '0' && c <= '9' ? RiverDays.NONE : 1 + d);
            }
        }
        RiverDays low = Make.river("y0000000o0000000a11");
        RiverDays high = Make.river("y9999999o6666666a11");
        for (int d = 0; d < 7; d++) {
            Call.due(low, "weekday(" + d + ", 0)", 0);
            Call.due(high, "weekday(" + d + ", 0)", 9);
        }
        fault("y12345678o0123456a11", 8);
        fault("y123456o0123456a11", 7);
    }

    /** "whose each of these is (villages 0 .. 6, seven figures)" */
    private static void ownerFigures() {
        for (int d = 0; d < 7; d++) {
            for (int c = 0; c < 256; c++) {
                sign(WEEK + "a11", 9 + d, c, c >= '0' && c <= '6' ? RiverDays.NONE : 9 + d);
            }
        }
        RiverDays low = Make.river("y0000000o0000000a11");
        RiverDays high = Make.river("y9999999o6666666a11");
        for (int d = 0; d < 7; d++) {
            Call.due(low, "weekday(" + d + ", 1)", 0);
            Call.due(high, "weekday(" + d + ", 1)", 6);
        }
        fault("y1234567o01234560a11", 16);
        fault("y1234567o012345a11", 15);
    }

    /** "a letter": the first one, and one behind a REACH; a blank puts the FAULT off to what follows it. */
    private static void reachLetters() {
        for (int c = 0; c < 256; c++) {
            boolean good = LETTERS.indexOf(c) >= 0;
            sign(WEEK + "a11", 16, c, good ? RiverDays.NONE : c == 32 ? 17 : 16);
            sign(WEEK + "m22 a11", 20, c, good ? RiverDays.NONE : c == 32 ? 21 : 20);
        }
    }

    /** "a MEASURE (1 .. 9), the WATER (0 .. 9), one figure each" */
    private static void measureAndWater() {
        for (int c = 0; c < 256; c++) {
            sign(WEEK + "a11", 17, c, c >= '1' && c <= '9' ? RiverDays.NONE : 17);
            sign(WEEK + "a11", 18, c, c >= '0' && c <= '9' ? RiverDays.NONE : 18);
            sign(WEEK + "m22w11f33", 20, c, c >= '1' && c <= '9' ? RiverDays.NONE : 20);
            sign(WEEK + "m22w11f33", 21, c, c >= '0' && c <= '9' ? RiverDays.NONE : 21);
        }
        fault(WEEK + "a111", 19);
        RiverDays x = Make.river(WEEK + "a10w99");
        Check.due("measure", Make.of(x, 0, 1), 1);
        Check.due("water", Make.of(x, 0, 2), 0);
        Check.due("measure", Make.of(x, 1, 1), 9);
        Check.due("water", Make.of(x, 1, 2), 9);
    }

    /** "Then REACHES (1 to 6; 0, 1, .. from the spring down)" */
    private static void oneToSixReaches() {
        fault(WEEK, 16);
        for (int n = 1; n <= 6; n++) {
            fault(WEEK + "a11".repeat(n), RiverDays.NONE);
            RiverDays x = new RiverDays();
            Make.text(x, 0, WEEK + "m17f28a39m41f52a63".substring(0, 3 * n));
            Call.due(x, "river(0)", n);
            Call.due(x, "count(0)", n);
            for (int i = 0; i < n; i++) {
                Check.due("measure of " + i, Make.of(x, i, 1), i + 1);
            }
            Call.due(x, "reach(" + n + ", 0)", RiverDays.BAD);
            Call.due(x, "reach(-1, 0)", RiverDays.BAD);
        }
    }

    /** "a seventh REACH .. its place" */
    private static void seventhReach() {
        for (char c : LETTERS.toCharArray()) {
            fault(WEEK + "a11".repeat(6) + c + "11", 34);
            fault(WEEK + "a11".repeat(6) + "   " + c + "11", 37);
            fault(WEEK + "a11".repeat(6) + c, 34);
            fault(WEEK + "a11".repeat(6) + c + "00", 34);
            fault(WEEK + "a11".repeat(5) + c + "11", RiverDays.NONE);
        }
        fault(WEEK + "a11".repeat(6) + " ".repeat(26), RiverDays.NONE);
        fault(WEEK + "a11".repeat(6) + " ".repeat(25) + "a", 59);
        fault(WEEK + "a11".repeat(6) + "x", 34);
        fault(WEEK + "a11".repeat(6) + "1", 34);
    }

    /** "a fourth one that can be SHUT: its place"; "three of a RIVER at most" */
    private static void fourthGate() {
        String gates = "wps";
        for (char a : gates.toCharArray()) {
            for (char b : gates.toCharArray()) {
                String three = WEEK + a + "11" + b + "11" + a + "11";
                fault(three, RiverDays.NONE);
                fault(three + "m11f11a11", RiverDays.NONE);
                fault(three + b + "11", 25);
                fault(three + b, 25);
                fault(three + "  " + b + "11", 27);
                fault(three + "m11" + b + "11", 28);
                fault(three + "m11f11" + b + "11", 31);
                fault(three + "m11f11a11" + b + "11", 34);
                fault(WEEK + "a11" + a + "11m11" + b + "11f11" + a + "11", RiverDays.NONE);
            }
        }
        Check.due("three", Make.river(WEEK + "w11p11s11a11m11f11").gates(), 7);
        Check.due("three", Make.river(WEEK + "a11m11f11w11p11s11").gates(), 56);
    }

    /** "A FAULT is the first place at which it can't go on so" */
    private static void firstFaultOfTwo() {
        fault("x1234567x0123456", 0);
        fault("y12x4567o0123457a11", 3);
        fault("y1234567o0123457x11", 15);
        fault(WEEK + "a01x", 17);
        fault(WEEK + "w11w11w11 x11 w11", 26);
        fault(WEEK + "w11w11w11w01", 25);
        fault(WEEK + "a11a11a11a11a11a1xa11", 33);
    }

    /** "NONE: there is none. BAD; NOTHING." */
    private static void faultRefused() {
        Refused.bad(Stand.RICH, "fault(-1)", "fault(4)");
        Refused.finds(Refused.NOTHING, Stand.RICH, "fault(2)");
        Refused.none(Stand.RICH, "fault(0)");
        Call.due(Stand.RICH.get(), "fault(1)", 3);
        Call.due(Stand.RICH.get(), "fault(3)", 0);
    }

    /** fault() only looks: also at another RIVER than the one that is there. */
    private static void faultChangesNothing() {
        Supplier<RiverDays> other = () -> {
            RiverDays x = Stand.RICH.get();
            Make.text(x, 2, "y9999999o6666666s99");
            return x;
        };
        Refused.none(other, "fault(2)");
        RiverDays x = Stand.RICH.get();
        RiverDays twin = Stand.RICH.get();
        Call.due(x, "fault(1)", 3);
        Check.isTrue("nothing changed", Refused.shown(x).equals(Refused.shown(twin)));
    }

    /** "anew: DAY 0, nothing came to the sea, no DEEDS; kept RIVERS go" */
    private static void riverAnew() {
        RiverDays x = Stand.FULL.get();
        Make.text(x, 2, "y9876543o6543210s92");
        Call.due(x, "river(2)", 1);
        int[] counts = {1, 0, 0, 2, 0, 0, 1, 0, 5, 4, 0};
        for (int what = 0; what <= 10; what++) {
            Call.due(x, "count(" + what + ")", counts[what]);
        }
        for (int v = 0; v <= 6; v++) {
            Call.due(x, "owns(" + v + ")", 0);
            Call.due(x, "weekday(" + v + ", 0)", 9 - v);
            Call.due(x, "weekday(" + v + ", 1)", 6 - v);
        }
        int[] reach = {4, 9, 2, 0, 0};
        for (int what = 0; what <= 4; what++) {
            Check.due("reach(0, " + what + ")", Make.of(x, 0, what), reach[what]);
        }
        for (int k = 0; k <= 2; k++) {
            Check.finds("kept " + k, x, x.on(k), Refused.NOTHING);
        }
        Call.due(x, "undo(1)", RiverDays.BAD);
        Call.due(x, "undo(0)", 0);
        Call.due(x, "day(0)", 2);
        Call.due(x, "owns(6)", 2);
        Check.due("the rain of DAY 0", Make.of(x, 0, 2), 9);
        Call.due(x, "river(2)", 1);
        Call.due(x, "count(1)", 0);
    }

    /** Nothing is left of longer RIVERS that were there, or of TEXTS that were looked at. */
    private static void riverOfFewer() {
        RiverDays x = new RiverDays();
        Make.text(x, 0, "y1111111o0123456w19m99f99p19s19m99");
        Make.text(x, 1, "y0000000o0000000a11w59");
        for (int k = 0; k < 3; k++) {
            Call.due(x, "river(0)", 6);
            Call.due(x, "fault(0)", RiverDays.NONE);
            Call.due(x, "river(1)", 2);
            Call.due(x, "count(3)", 10);
            Call.due(x, "count(6)", 1);
            Call.due(x, "count(7)", 0);
            Call.due(x, "gates()", 2);
            Call.due(x, "reach(2, 0)", RiverDays.BAD);
            Call.due(x, "day(1)", RiverDays.BAD);
            Call.due(x, "all(4, 0)", 0);
            Call.due(x, "day(2)", 4);
            Call.due(x, "count(3)", 6);
        }
    }

    /** "BAD; NOTHING; STATE: a FAULT. (STATE behind NOTHING.)" */
    private static void riverRefused() {
        Refused.bad(Stand.RICH, "river(-1)", "river(4)");
        Refused.bad(Stand.DRY, "river(-1)", "river(4)");
        Refused.finds(Refused.NOTHING, Stand.RICH, "river(2)");
        Refused.state(Stand.RICH, "river(1)", "river(3)");
        // A FAULT at the last sign: what stood ahead of it has not come.
        Supplier<RiverDays> late = () -> {
            RiverDays x = Stand.RICH.get();
            Make.text(x, 2, "y9999999o6666666s99m99f9x");
            return x;
        };
        Refused.state(late, "river(2)");
    }

    /** "KINDS of REACHES and letters" */
    private static void kindsByLetters() {
        for (int kind = 0; kind <= 5; kind++) {
            RiverDays x = Make.river(WEEK + LETTERS.charAt(kind) + "11");
            Check.due("kind", Make.of(x, 0, 0), kind);
            boolean gate = kind == 1 || kind == 3 || kind == 4;
            boolean mill = kind == 2 || kind == 5;
            Call.due(x, "gates()", gate ? 1 : 0);
            Call.due(x, "count(6)", gate ? 1 : 0);
            Call.due(x, "count(7)", mill ? 1 : 0);
            Call.due(x, "runs(1)", gate ? 0 : RiverDays.BAD);
        }
    }
}
