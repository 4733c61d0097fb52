/** Promises 8 to 11: text, put, fault, river. */
public final class TextsTest {
    private static final String WEEK = "y0000000o0000000";

    public static void main(String[] args) {
        text();
        put();
        faults();
        tooMany();
        faultRefused();
        river();
        riverAnew();
        Check.end("TextsTest");
    }

    private static void text() {
        RiverDays x = new RiverDays();
        Check.due("text", x.text(0, 60), 60);
        Check.due("a blank", x.put(0, 59, 0), 1032);
        Check.due("anew", x.text(0, 3), 3);
        Check.due("blanks", x.put(0, 2, 5), 1032);
        Check.due("empty", x.text(3, 0), 0);
        Check.due("texts", x.count(9), 2);
        Check.due("61", x.text(0, 61), RiverDays.BAD);
        Check.due("no text", x.text(4, 1), RiverDays.BAD);
        Check.due("no text", x.text(-1, -1), RiverDays.BAD);
        Check.finds("-1", x, x.text(0, -1), 5);
        Check.due("refused: as it was", x.put(0, 2, 5), 1005);
    }

    private static void put() {
        RiverDays x = new RiverDays();
        x.text(1, 2);
        Check.due("put", x.put(1, 0, 127), 1032);
        Check.due("was", x.put(1, 0, 128), 1127);
        Check.due("a byte", x.put(1, 0, 255), 1000 - 128);
        Check.due("a byte", x.put(1, 0, 256 + 65), 999);
        Check.due("cut", x.put(1, 0, -1), 1065);
        Check.due("other place", x.put(1, 1, 0), 1032);
        Check.due("asked stays", x.asked(), 0);
        Check.due("no text", x.put(4, 0, 0), RiverDays.BAD);
        Check.due("no text", x.put(-1, 0, 0), RiverDays.BAD);
        Check.finds("missing", x, x.put(0, 0, 0), 1);
        Check.finds("beyond", x, x.put(1, 2, 0), 2);
        Check.finds("ahead", x, x.put(1, -1, 0), 2);
        Check.due("as it was", x.put(1, 0, 0), 999);
    }

    private static void fault(String signs, int due) {
        RiverDays x = new RiverDays();
        Make.text(x, 2, signs);
        Check.due("fault of <" + signs + ">", x.fault(2), due);
        Check.due("river of <" + signs + "> is refused or not", x.river(2) > 0 ? 1 : 0, due == RiverDays.NONE ? 1 : 0);
    }

    private static void faults() {
        fault(WEEK + "a10", RiverDays.NONE);
        fault("   y0123456   o0123456  a19  w90m99    ", RiverDays.NONE);
        fault("y9876543o6543210a11w22m33p44s55f66", RiverDays.NONE);
        fault("", 0);
        fault("    ", 4);
        fault("y", 1);
        fault("y000000", 7);
        fault("y0000000", 8);
        fault("y0000000  ", 10);
        fault("y0000000o000000", 15);
        fault(WEEK, 16);
        fault(WEEK + "   ", 19);
        fault(WEEK + "a", 17);
        fault(WEEK + "a1", 18);
        fault(WEEK + "a10 w", 21);
        fault("o0000000", 0);
        fault(" x", 1);
        fault("y000 0000o0000000a10", 4);
        fault("y 0000000o0000000a10", 1);
        fault("y00000000o0000000a10", 8);
        fault("y0000000y0000000a10", 8);
        fault("y0000000o0000007a10", 15);
        fault("y0000000o000 000a10", 12);
        fault("y000000/o0000000a10", 7);
        fault("y000000:o0000000a10", 7);
        fault("y0000000o/000000a10", 9);
        fault(WEEK + "b10", 16);
        fault(WEEK + "A10", 16);
        fault(WEEK + "y00", 16);
        fault(WEEK + "a00", 17);
        fault(WEEK + "a 10", 17);
        fault(WEEK + "a1 0", 18);
        fault(WEEK + "a:0", 17);
        fault(WEEK + "a1:", 18);
        fault(WEEK + "a1/", 18);
        fault(WEEK + "a100", 19);
        fault(WEEK + "a10 1", 20);
        fault(WEEK + "a10" + (char) 9, 19);
        fault(WEEK + "a10" + (char) 0, 19);
        fault(WEEK + "a10" + (char) 160, 19);
    }

    private static void tooMany() {
        fault(WEEK + "a10a10a10a10a10a10", RiverDays.NONE);
        fault(WEEK + "a10a10a10a10a10a10 ", RiverDays.NONE);
        fault(WEEK + "a10a10a10a10a10a10a10", 34);
        fault(WEEK + "a10a10a10a10a10a10  m", 36);
        fault(WEEK + "w10p10s10m10f10a10", RiverDays.NONE);
        fault(WEEK + "w10w10w10w10", 25);
        fault(WEEK + "p10p10p10p10", 25);
        fault(WEEK + "s10s10s10s10", 25);
        fault(WEEK + "w10 p10 a10 s10 m10 w", 36);
        fault(WEEK + "m10m10m10f10f10f10", RiverDays.NONE);
    }

    private static void faultRefused() {
        RiverDays x = new RiverDays();
        Check.due("no text", x.fault(4), RiverDays.BAD);
        Check.due("no text", x.fault(-1), RiverDays.BAD);
        Check.finds("missing", x, x.fault(1), 1);
        x.text(1, 0);
        Check.due("empty", x.fault(1), 0);
        Make.text(x, 2, WEEK + "a15 m25");
        Check.due("a longer one", x.fault(2), RiverDays.NONE);
        Make.text(x, 1, WEEK + "a1");
        Check.due("a shorter one behind it", x.fault(1), 18);
        Make.text(x, 1, WEEK.substring(1));
        Check.due("a shorter one behind it", x.fault(1), 0);
    }

    private static void river() {
        RiverDays x = new RiverDays();
        Check.due("no text", x.river(4), RiverDays.BAD);
        Check.due("no text", x.river(-1), RiverDays.BAD);
        Check.finds("missing", x, x.river(0), 1);
        x.text(0, 5);
        Check.due("a fault", x.river(0), RiverDays.STATE);
        Check.due("no reaches", x.count(0), 0);
        Make.text(x, 3, " y1234567 o6543210  f29  s31");
        Check.due("reaches", x.river(3), 2);
        for (int d = 0; d < 7; d++) {
            Check.due("rain", x.weekday(d, 0), d + 1);
            Check.due("owner", x.weekday(d, 1), 6 - d);
        }
        int[] due = {5, 2, 9, 0, 0, 4, 3, 1, 0, 0};
        for (int k = 0; k < 10; k++) {
            Check.due("reach " + k, Make.of(x, k / 5, k % 5), due[k]);
        }
        Make.text(x, 1, "y1234567o0000009a19");
        Check.due("a fault", x.river(1), RiverDays.STATE);
        Check.due("the river stays", x.count(0), 2);
        Check.due("its rain stays", x.weekday(6, 0), 7);
        Check.due("its owners stay", x.weekday(0, 1), 6);
        Check.due("a fault, looked for", x.fault(1), 15);
        Check.due("the river stays", Make.of(x, 0, 2), 9);
    }

    private static void riverAnew() {
        RiverDays x = Make.river("y1111111o0123456a14w25m36");
        x.row(0, 1);
        x.day(0);
        x.day(2);
        x.keep(0);
        x.keep(1);
        x.keep(2);
        x.swap(0, 6);
        Make.text(x, 1, "y2222222o0000000a47");
        Check.due("anew", x.river(1), 1);
        Check.due("day", x.count(1), 0);
        Check.due("deeds", x.count(2), 0);
        Check.due("water", x.count(3), 7);
        Check.due("sea", x.count(4), 0);
        Check.due("ground", x.count(5), 0);
        Check.due("weirs", x.count(6), 0);
        Check.due("mills", x.count(7), 0);
        Check.due("rows stay", x.count(8), 1);
        Check.due("texts stay", x.count(9), 2);
        Check.due("kept go", x.count(10), 0);
        for (int k = 0; k < 3; k++) {
            Check.finds("kept go", x, x.on(k), 1);
        }
        Check.due("gates", x.gates(), 0);
        Check.due("owner", x.weekday(6, 1), 0);
        for (int v = 0; v < 7; v++) {
            Check.due("owns", x.owns(v), 0);
        }
        Check.due("no second reach", x.reach(1, 0), RiverDays.BAD);
        Check.due("ran anew", Make.of(x, 0, 4), 0);
        Check.due("the first again", x.river(0), 3);
        Check.due("owners as in the text", x.weekday(6, 1), 6);
        Check.due("gates", x.gates(), 2);
        Check.due("the second again", x.river(1), 1);
        Check.due("the second once more", x.river(1), 1);
        Check.due("weirs", x.count(6), 0);
        Check.due("mills", x.count(7), 0);
        Check.due("no plans with any shut", x.all(4, 0), 0);
    }
}
