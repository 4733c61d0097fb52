import java.math.BigInteger;
import java.nio.charset.StandardCharsets;
import java.util.ArrayList;
import java.util.Arrays;
import java.util.List;
import java.util.regex.Matcher;
import java.util.regex.Pattern;

/**
 * The document once more, slowly and in another way: snapshots for DEEDS, every PLAN written out, chances by
 * large numbers. ModelTest holds the program against it.
 */
final class Model {
    /** A RIVER at one time. */
    private record Shot(int[] water, int[] ground, int[] ran, int[] owned) {
        Shot twin() {
            return new Shot(water.clone(), ground.clone(), ran.clone(), owned.clone());
        }
    }

    /** What one DAY brought. */
    private record Brought(int[] water, int[] ran, int grinding, int sea) {
    }

    private static final Pattern RIVER = Pattern.compile(" *y[0-9]{7} *o[0-6]{7} *(?:[awmpsf][1-9][0-9] *){1,6}");
    private static final Pattern ITEM = Pattern.compile("[awmpsf][1-9][0-9]");

    private final int[][] rows = new int[6][];
    private final byte[][] texts = new byte[4][];
    private String letters = "";
    private int[] measure = {};
    private int[] rain = new int[7];
    private final int[] owner = new int[7];
    private Shot now = new Shot(new int[0], new int[0], new int[0], new int[7]);
    private List<Shot> before = new ArrayList<>();
    private final Shot[] keptNow = new Shot[3];
    private final List<List<Shot>> keptBefore = new ArrayList<>(Arrays.asList(null, null, null));
    private int asked = 0;
    private BigInteger upper = BigInteger.ZERO;
    private BigInteger lower = BigInteger.ONE;
    private int finding = 0;
    private final int[] findings = new int[6];

    private int size() {
        return letters.length();
    }

    private int found(int f) {
        finding = f;
        findings[f]++;
        return -3;
    }

    private int told(int v) {
        asked = v;
        return 1;
    }

    private static boolean in(int v, int low, int high) {
        return low <= v && v <= high;
    }

    private int lacks(int r) {
        return !in(r, 0, 5) ? -1 : rows[r] == null ? found(1) : 0;
    }

    private int lacksText(int t) {
        return !in(t, 0, 3) ? -1 : texts[t] == null ? found(1) : 0;
    }

    int row(int r, int n) {
        if (!in(r, 0, 5) || n > 40) return -1;
        if (n < 0) return found(5);
        rows[r] = new int[n];
        return n;
    }

    int lay(int r, int i, int v) {
        int no = lacks(r);
        if (no != 0) return no;
        if (!in(i, 0, rows[r].length - 1)) return found(2);
        told(rows[r][i]);
        rows[r][i] = v;
        return 1;
    }

    int at(int r, int i) {
        int no = lacks(r);
        if (no != 0) return no;
        return in(i, 0, rows[r].length - 1) ? told(rows[r][i]) : found(2);
    }

    int tear(int r) {
        int no = lacks(r);
        if (no != 0) return no;
        rows[r] = null;
        return 1;
    }

    int copy(int r, int i, int to, int j, int n) {
        if (!in(r, 0, 5) || !in(to, 0, 5)) return -1;
        if (n < 0) return found(5);
        if (rows[r] == null || rows[to] == null) return found(1);
        if (i < 0 || j < 0 || (long) i + n > rows[r].length || (long) j + n > rows[to].length) return found(2);
        int[] taken = Arrays.copyOfRange(rows[r], i, i + n);
        for (int k = 0; k < n; k++) rows[to][j + k] = taken[k];
        return 1;
    }

    int mean(int r) {
        int no = lacks(r);
        if (no != 0) return no;
        if (rows[r].length == 0) return found(4);
        BigInteger sum = BigInteger.ZERO;
        for (int v : rows[r]) sum = sum.add(BigInteger.valueOf(v));
        return told(sum.divide(BigInteger.valueOf(rows[r].length)).intValueExact());
    }

    int text(int t, int n) {
        if (!in(t, 0, 3) || n > 60) return -1;
        if (n < 0) return found(5);
        texts[t] = new byte[n];
        Arrays.fill(texts[t], (byte) 32);
        return n;
    }

    int put(int t, int i, int v) {
        int no = lacksText(t);
        if (no != 0) return no;
        if (!in(i, 0, texts[t].length - 1)) return found(2);
        int was = texts[t][i];
        texts[t][i] = (byte) v;
        return was + 1000;
    }

    /** A beginning of a TEXT is good, if some RIVER begins so. */
    private static boolean begins(String s) {
        Matcher m = RIVER.matcher(s);
        boolean soFar = m.matches() || m.hitEnd();
        return soFar && s.replaceAll("[^wps]", "").length() <= 3;
    }

    private static int faultOf(String s) {
        for (int k = 0; k < s.length(); k++) {
            if (!begins(s.substring(0, k + 1))) return k;
        }
        return RIVER.matcher(s).matches() ? -9 : s.length();
    }

    private String signs(int t) {
        return new String(texts[t], StandardCharsets.ISO_8859_1);
    }

    int fault(int t) {
        int no = lacksText(t);
        return no != 0 ? no : faultOf(signs(t));
    }

    int river(int t) {
        int no = lacksText(t);
        if (no != 0) return no;
        if (faultOf(signs(t)) != -9) return -4;
        String s = signs(t).replace(" ", "");
        for (int d = 0; d < 7; d++) {
            rain[d] = s.charAt(1 + d) - '0';
            owner[d] = s.charAt(9 + d) - '0';
        }
        StringBuilder kinds = new StringBuilder();
        List<Integer> measures = new ArrayList<>();
        List<Integer> waters = new ArrayList<>();
        Matcher m = ITEM.matcher(s.substring(16));
        while (m.find()) {
            kinds.append(m.group().charAt(0));
            measures.add(m.group().charAt(1) - '0');
            waters.add(m.group().charAt(2) - '0');
        }
        letters = kinds.toString();
        measure = measures.stream().mapToInt(v -> v).toArray();
        int n = size();
        now = new Shot(waters.stream().mapToInt(v -> v).toArray(), new int[n], new int[n], new int[7]);
        before = new ArrayList<>();
        Arrays.fill(keptNow, null);
        return n;
    }

    int ofReach(int i, int what) {
        switch (what) {
            case 0: return "awmpsf".indexOf(letters.charAt(i));
            case 1: return measure[i];
            case 2: return now.water[i];
            case 3: return now.ground[i];
            default: return now.ran[i];
        }
    }

    int reach(int i, int what) {
        if (!in(i, 0, size() - 1) || !in(what, 0, 4)) return -1;
        return told(ofReach(i, what));
    }

    int mark(int i, int kind) {
        if (!in(i, 0, size() - 1) || !in(kind, 1, 5)) return -1;
        String alike = new String[] {"wps", "mf", "p", "s", "f"}[kind - 1];
        if (alike.indexOf(letters.charAt(i)) < 0) return found(3);
        int w = now.water[i];
        int m = measure[i];
        switch (kind) {
            case 1: return w > m ? m : w;
            case 2: return w < m ? m - w : 0;
            case 3: return w;
            case 4: {
                int days = 0;
                for (int left = w; left > 0; left -= m) days++;
                return days;
            }
            default: return w > m + 2 ? w - (m + 2) : 0;
        }
    }

    int weekday(int d, int what) {
        if (!in(d, 0, 6) || !in(what, 0, 1)) return -1;
        return size() == 0 ? -4 : what == 0 ? rain[d] : owner[d];
    }

    int swap(int d, int e) {
        if (!in(d, 0, 6) || !in(e, 0, 6) || d == e) return -1;
        if (size() == 0) return -4;
        int o = owner[d];
        owner[d] = owner[e];
        owner[e] = o;
        return 1;
    }

    int owns(int v) {
        return in(v, 0, 6) ? now.owned[v] : -1;
    }

    private static int lets(char letter, int m, int w, boolean shut) {
        if (shut) return w > m ? w - m : 0;
        return letter == 's' && w > m ? m : w;
    }

    private static int left(char letter, int w) {
        int stays = letter == 'p' ? (w > 0 ? w - 1 : 0) : w;
        return stays > 99 ? 99 : stays;
    }

    private Brought bring(int[] water, int shut, int fallen) {
        int n = size();
        int[] ran = new int[n];
        int[] next = new int[n];
        int grinding = 0;
        for (int i = 0; i < n; i++) {
            char c = letters.charAt(i);
            ran[i] = lets(c, measure[i], water[i], (shut & 1 << i) != 0);
            boolean turns = ran[i] >= measure[i];
            boolean floats = ran[i] > measure[i] + 2;
            if (c == 'm' && turns || c == 'f' && turns && !floats) grinding |= 1 << i;
        }
        for (int i = 0; i < n; i++) {
            int comes = i == 0 ? fallen : ran[i - 1];
            next[i] = left(letters.charAt(i), water[i] - ran[i] + comes);
        }
        return new Brought(next, ran, grinding, n == 0 ? 0 : ran[n - 1]);
    }

    private int today() {
        return before.size();
    }

    private int rainOn(int daysOn) {
        return rain[(today() + daysOn) % 7];
    }

    private int ownerOn(int daysOn) {
        return owner[(today() + daysOn) % 7];
    }

    private boolean shuts(int set) {
        for (int b = 0; b < 32; b++) {
            if ((set >>> b & 1) != 0 && (b >= size() || "wps".indexOf(letters.charAt(b)) < 0)) return false;
        }
        return true;
    }

    private int passed(int shut) {
        Brought b = bring(now.water, shut, rainOn(0));
        int village = ownerOn(0);
        before.add(now);
        Shot next = new Shot(b.water, now.ground.clone(), now.ran.clone(), now.owned.clone());
        for (int i = 0; i < size(); i++) {
            next.ground[i] += b.grinding >> i & 1;
            next.ran[i] += b.ran[i];
        }
        next.owned[village] += b.sea;
        now = next;
        return b.sea;
    }

    int day(int shut) {
        if (!shuts(shut)) return -1;
        if (size() == 0) return -4;
        return today() == 40 ? -2 : passed(shut);
    }

    int undo(int n) {
        if (!in(n, 0, today())) return -1;
        int undone = today() - n;
        if (undone > 0) {
            now = before.get(n);
            before = new ArrayList<>(before.subList(0, n));
        }
        return undone;
    }

    int keep(int k) {
        if (!in(k, 0, 2)) return -1;
        if (size() == 0) return -4;
        keptNow[k] = now.twin();
        keptBefore.set(k, new ArrayList<>(before));
        return today();
    }

    int on(int k) {
        if (!in(k, 0, 2)) return -1;
        if (keptNow[k] == null) return found(1);
        now = keptNow[k].twin();
        before = new ArrayList<>(keptBefore.get(k));
        return today();
    }

    int gates() {
        int set = 0;
        for (int i = 0; i < size(); i++) if (shuts(1 << i)) set |= 1 << i;
        return set;
    }

    int runs(int shut) {
        if (!shuts(shut)) return -1;
        if (size() == 0) return -4;
        Brought b = bring(now.water, shut, rainOn(0));
        told(b.grinding);
        return b.sea;
    }

    private List<Brought> follow(int[] plan) {
        List<Brought> days = new ArrayList<>();
        int[] water = now.water;
        for (int d = 0; d < plan.length; d++) {
            Brought b = bring(water, plan[d], rainOn(d));
            days.add(b);
            water = b.water;
        }
        return days;
    }

    private static int seaOf(List<Brought> days) {
        return days.stream().mapToInt(Brought::sea).sum();
    }

    private static int groundOf(List<Brought> days) {
        return days.stream().mapToInt(b -> Integer.bitCount(b.grinding)).sum();
    }

    private int noPlan(boolean good, int r, int longest) {
        if (!good || !in(r, 0, 5)) return -1;
        if (size() == 0) return -4;
        if (rows[r] == null) return found(1);
        if (rows[r].length > longest) return found(5);
        for (int set : rows[r]) if (!shuts(set)) return found(3);
        return 0;
    }

    int sea(int r) {
        int no = noPlan(true, r, 12);
        if (no != 0) return no;
        List<Brought> days = follow(rows[r]);
        told(groundOf(days));
        return seaOf(days);
    }

    int water(int i, int r) {
        int no = noPlan(in(i, 0, size() - 1), r, 12);
        if (no != 0) return no;
        List<Brought> days = follow(rows[r]);
        return days.isEmpty() ? now.water[i] : days.get(days.size() - 1).water[i];
    }

    private int shareOf(int village, List<Brought> days) {
        int sum = 0;
        for (int d = 0; d < days.size(); d++) if (ownerOn(d) == village) sum += days.get(d).sea;
        return sum;
    }

    int share(int village, int r) {
        int no = noPlan(in(village, 0, 6), r, 12);
        return no != 0 ? no : shareOf(village, follow(rows[r]));
    }

    int grinds(int i) {
        if (!in(i, 0, size() - 1)) return -1;
        List<Brought> days = follow(new int[40]);
        for (int d = 0; d < 40; d++) if ((days.get(d).grinding & 1 << i) != 0) return d + 1;
        return -9;
    }

    /** Every PLAN of n DAYS, in their order. */
    private List<int[]> plans(int n) {
        List<int[]> all = new ArrayList<>();
        all.add(new int[0]);
        for (int d = 0; d < n; d++) {
            List<int[]> longer = new ArrayList<>();
            for (int[] plan : all) {
                for (int set = 0; set < 64; set++) {
                    if (shuts(set)) {
                        int[] more = Arrays.copyOf(plan, d + 1);
                        more[d] = set;
                        longer.add(more);
                    }
                }
            }
            all = longer;
        }
        return all;
    }

    private int noSearch(boolean good, int n, int longest) {
        return !good || !in(n, 0, longest) ? -1 : size() == 0 ? -4 : 0;
    }

    int best(int n, int r) {
        int no = noSearch(in(r, 0, 5), n, 4);
        if (no != 0) return no;
        int top = -1;
        for (int[] plan : plans(n)) {
            int often = groundOf(follow(plan));
            if (often > top) {
                top = often;
                rows[r] = plan;
            }
        }
        return top;
    }

    private static int shutIn(int[] plan) {
        return Arrays.stream(plan).map(Integer::bitCount).sum();
    }

    int all(int n, int r) {
        int no = noSearch(in(r, 0, 5), n, 4);
        if (no != 0) return no;
        int mills = letters.replaceAll("[^mf]", "").length();
        int[] chosen = null;
        for (int[] plan : plans(n)) {
            boolean each = follow(plan).stream().allMatch(b -> Integer.bitCount(b.grinding) == mills);
            if (each && (chosen == null || shutIn(plan) < shutIn(chosen))) chosen = plan;
        }
        if (chosen == null) return -9;
        rows[r] = chosen;
        return shutIn(chosen);
    }

    int most(int village, int n) {
        int no = noSearch(in(village, 0, 6), n, 4);
        if (no != 0) return no;
        return plans(n).stream().mapToInt(plan -> shareOf(village, follow(plan))).max().getAsInt();
    }

    int worth(int n) {
        int no = noSearch(true, n, 20);
        if (no != 0) return no;
        int[] all = rain;
        int[] often = new int[7];
        for (int d = 0; d < 7; d++) {
            rain = all.clone();
            rain[d] = 0;
            often[d] = groundOf(follow(new int[n]));
        }
        rain = all;
        int least = Arrays.stream(often).min().getAsInt();
        told(least);
        for (int d = 0; d < 7; d++) if (often[d] == least) return d;
        return -1;
    }

    private int play(int[] water, int d, int n) {
        if (d == n) return 0;
        List<Integer> outcomes = new ArrayList<>();
        for (int set = 0; set < 64; set++) {
            if (shuts(set)) {
                Brought b = bring(water, set, rainOn(d));
                outcomes.add(Integer.bitCount(b.grinding) + play(b.water, d + 1, n));
            }
        }
        outcomes.sort(null);
        return d == 1 ? outcomes.get(0) : outcomes.get(outcomes.size() - 1);
    }

    int duel(int n) {
        int no = noSearch(true, n, 3);
        return no != 0 ? no : play(now.water, 0, n);
    }

    private int noSeas(boolean good, int r) {
        if (!good || !in(r, 0, 5)) return -1;
        if (size() == 0) return -4;
        if (rows[r] == null) return found(1);
        if (!in(rows[r].length, 1, 4)) return found(5);
        for (int v : rows[r]) if (!in(v, 0, 999)) return found(3);
        return 0;
    }

    private List<int[]> plansAsCame(int r) {
        List<int[]> fit = new ArrayList<>();
        for (int[] plan : plans(rows[r].length)) {
            int[] seas = follow(plan).stream().mapToInt(Brought::sea).toArray();
            if (Arrays.equals(seas, rows[r])) fit.add(plan);
        }
        return fit;
    }

    int ways(int r) {
        int no = noSeas(true, r);
        if (no != 0) return no;
        List<int[]> fit = plansAsCame(r);
        int common = fit.isEmpty() ? 0 : 63;
        for (int[] plan : fit) common &= plan[0];
        upper = BigInteger.valueOf(fit.size());
        lower = BigInteger.ONE;
        return told(common);
    }

    int first(int r, int to) {
        int no = noSeas(in(to, 0, 5), r);
        if (no != 0) return no;
        List<int[]> fit = plansAsCame(r);
        if (fit.isEmpty()) return -9;
        rows[to] = fit.get(0);
        return shutIn(rows[to]);
    }

    private int noPairs(int i, int r) {
        if (!in(i, 0, size() - 1) || !in(r, 0, 5)) return -1;
        if (rows[r] == null) return found(1);
        if (rows[r].length % 2 == 1 || rows[r].length > 20) return found(5);
        for (int v : rows[r]) if (!in(v, 0, 99)) return found(3);
        return 0;
    }

    private boolean could(char letter, int m, int i, int r) {
        int w = now.water[i];
        boolean so = true;
        for (int k = 0; k < rows[r].length; k += 2) {
            int ran = lets(letter, m, w, false);
            so &= ran == rows[r][k + 1];
            w = left(letter, w - ran + rows[r][k]);
        }
        return so;
    }

    int kinds(int i, int r) {
        int no = noPairs(i, r);
        if (no != 0) return no;
        int set = 0;
        for (int k = 0; k < 6; k++) if (could("awmpsf".charAt(k), measure[i], i, r)) set += 1 << k;
        return set;
    }

    int measures(int i, int r) {
        int no = noPairs(i, r);
        if (no != 0) return no;
        int set = 0;
        for (int m = 1; m <= 9; m++) if (could(letters.charAt(i), m, i, r)) set += 1 << m;
        return set;
    }

    private void tellOf(BigInteger up, BigInteger low) {
        BigInteger g = up.gcd(low);
        upper = up.divide(g);
        lower = low.divide(g);
    }

    /** Every way in which what is SHUT holds or breaks: adds each one's weight, or its sea by its weight. */
    private BigInteger weigh(int[] plan, int p, int often, int d, int[] held) {
        if (d == plan.length) {
            List<Brought> days = follow(held);
            if (often < 0) return BigInteger.valueOf(seaOf(days));
            return groundOf(days) >= often ? BigInteger.ONE : BigInteger.ZERO;
        }
        BigInteger sum = BigInteger.ZERO;
        for (int set = 0; set < 64; set++) {
            if ((set & ~plan[d]) == 0) {
                held[d] = set;
                BigInteger weight = BigInteger.valueOf(12 - p).pow(Integer.bitCount(set))
                    .multiply(BigInteger.valueOf(p).pow(Integer.bitCount(plan[d] ^ set)));
                sum = sum.add(weight.multiply(weigh(plan, p, often, d + 1, held)));
            }
        }
        return sum;
    }

    private void tellWeighed(int r, int p, int often) {
        BigInteger whole = BigInteger.valueOf(12).pow(shutIn(rows[r]));
        tellOf(weigh(rows[r], p, often, 0, new int[rows[r].length]), whole);
    }

    int mid(int r, int p) {
        int no = noPlan(in(p, 0, 12), r, 4);
        if (no != 0) return no;
        tellWeighed(r, p, -1);
        return 1;
    }

    int odds(int r, int g, int p) {
        int no = noPlan(in(p, 0, 12) && in(g, 0, 99), r, 4);
        if (no != 0) return no;
        tellWeighed(r, p, g);
        return 1;
    }

    int lots(int n, int seed) {
        if (!in(n, 1, 20) || !in(seed, 1, 2147483646)) return -1;
        if (size() == 0) return -4;
        if (today() + n > 40) return -2;
        BigInteger lot = BigInteger.valueOf(seed);
        int came = 0;
        for (int d = 0; d < n; d++) {
            lot = lot.multiply(BigInteger.valueOf(48271)).mod(BigInteger.valueOf(2147483647));
            int set = 0;
            int divisor = 8;
            for (int i = 0; i < size(); i++) {
                if (shuts(1 << i)) {
                    set |= lot.intValueExact() / divisor % 2 << i;
                    divisor *= 2;
                }
            }
            came += passed(set);
        }
        return came;
    }

    int asked() {
        return asked;
    }

    long upper() {
        return upper.longValueExact();
    }

    long lower() {
        return lower.longValueExact();
    }

    int count(int what) {
        switch (what) {
            case 0: return size();
            case 1: return today();
            case 2: return before.size();
            case 3: return Arrays.stream(now.water).sum();
            case 4: return Arrays.stream(now.owned).sum();
            case 5: return Arrays.stream(now.ground).sum();
            case 6: return letters.replaceAll("[^wps]", "").length();
            case 7: return letters.replaceAll("[^mf]", "").length();
            case 8: return (int) Arrays.stream(rows).filter(r -> r != null).count();
            case 9: return (int) Arrays.stream(texts).filter(t -> t != null).count();
            case 10: return (int) Arrays.stream(keptNow).filter(k -> k != null).count();
            default: return -1;
        }
    }

    int finding() {
        return finding;
    }

    int findings(int f) {
        return in(f, 1, 5) ? findings[f] : -1;
    }

    long digest() {
        List<Integer> values = new ArrayList<>();
        for (int what = 0; what <= 10; what++) values.add(count(what));
        for (int d = 0; d < 7 && size() > 0; d++) values.addAll(List.of(weekday(d, 0), weekday(d, 1)));
        for (int v = 0; v < 7; v++) values.add(owns(v));
        for (int i = 0; i < size(); i++) for (int what = 0; what < 5; what++) values.add(ofReach(i, what));
        for (int k = 0; k < 3; k++) values.add(keptNow[k] == null ? -1 : keptBefore.get(k).size());
        for (int[] r : rows) {
            values.add(r == null ? -1 : r.length);
            if (r != null) for (int v : r) values.add(v);
        }
        for (byte[] t : texts) {
            values.add(t == null ? -1 : t.length);
            if (t != null) for (byte v : t) values.add((int) v);
        }
        long h = 17;
        for (int v : values) h = 31 * h + v;
        return h;
    }
}
