import java.math.BigInteger;
import java.util.ArrayDeque;
import java.util.ArrayList;
import java.util.Arrays;
import java.util.HashMap;
import java.util.List;
import java.util.Map;
import java.util.regex.Matcher;
import java.util.regex.Pattern;

/**
 * The document told once more, in the slowest and plainest way and with the Java library, so that
 * the two can be held against each other: no sun is kept, each answer is found anew.
 */
final class PlainHill {
    private String text = "";
    private String[] rowTexts = {};
    private String figures = "";
    private final int[] stand = new int[12];
    private final int[] owner = new int[12];
    private final int[] days = {90, 90, 90, 90};
    private final int[][] worth = {{1, 1, 1, 1}, {1, 1, 1, 1}, {1, 1, 1, 1}, {1, 1, 1, 1}};
    private final int[][] sort = {{1000, 10}, {1000, 20}, {1000, 30}};
    private final List<int[]> seen = new ArrayList<>();
    private final int[] clouds = {4, 4, 4, 4};
    private final int[] forms = new int[4];
    private final List<List<Integer>> sheets = new ArrayList<>(Arrays.asList(null, null, null, null));
    private int finding;

    private static boolean in(int v, int least, int most) {
        return least <= v && v <= most;
    }

    private boolean isCell(int cell) {
        return in(cell, 0, cells() - 1);
    }

    private int find(int number) {
        finding = number;
        return -10 - number;
    }

    // the hill

    int type(int b) {
        if (!in(b, 0, 255)) {
            return -2;
        }
        if (text.length() == 20) {
            return -4;
        }
        text += (char) b;
        layRows();
        return text.length();
    }

    int wipe() {
        int n = text.length();
        text = "";
        layRows();
        return n;
    }

    private static Pattern rows(int width, String tail) {
        String row = "[0-9]{" + width + "}";
        return Pattern.compile(row + tail.replace("ROW", row), Pattern.DOTALL);
    }

    private static boolean isWell(String t) {
        for (int width = 1; width <= 4; width++) {
            if (rows(width, "(;ROW){0,2}").matcher(t).matches()) {
                return true;
            }
        }
        return t.isEmpty();
    }

    private static boolean canGoOn(String t) {
        for (int width = 1; width <= 4; width++) {
            Matcher m = rows(width, "(;ROW){0,2}").matcher(t);
            if (m.matches() || m.hitEnd() || rows(width, ";ROW;ROW;").matcher(t).matches()) {
                return true;
            }
        }
        return t.isEmpty();
    }

    int fault() {
        for (int p = 0; p < text.length(); p++) {
            if (!canGoOn(text.substring(0, p + 1))) {
                return p;
            }
        }
        return isWell(text) ? -1 : text.length();
    }

    private void layRows() {
        rowTexts = text.isEmpty() || !isWell(text) ? new String[0] : text.split(";");
        figures = String.join("", rowTexts);
    }

    private int cells() {
        return figures.length();
    }

    private int width() {
        return rowTexts[0].length();
    }

    private int height(int cell) {
        return figures.charAt(cell) - '0';
    }

    int cell(int cell, int what) {
        if (!isCell(cell) || !in(what, 0, 2)) {
            return -2;
        }
        return new int[] {height(cell), stand[cell], owner[cell]}[what];
    }

    int stand(int cell, int v) {
        if (!in(cell, 0, 11) || !in(v, 0, 20)) {
            return -2;
        }
        int was = stand[cell];
        stand[cell] = v;
        return was;
    }

    int owner(int cell, int v) {
        if (!in(cell, 0, 11) || !in(v, 0, 3)) {
            return -2;
        }
        int was = owner[cell];
        owner[cell] = v;
        return was;
    }

    int read(int s) {
        if (!in(s, 0, 3)) {
            return -2;
        }
        if (sheets.get(s) == null) {
            return find(1);
        }
        int n = 0;
        for (int item : sheets.get(s)) {
            if (n == 12 || !in(item, 0, 3)) {
                break;
            }
            owner[n++] = item;
        }
        return n;
    }

    int days(int season, int v) {
        if (!in(season, 0, 3) || !in(v, 0, 99)) {
            return -2;
        }
        int was = days[season];
        days[season] = v;
        return was;
    }

    // sun

    int steep(int season, int hour) {
        if (!in(season, 0, 3) || !in(hour, 0, 11)) {
            return -2;
        }
        int[] times = {1, 2, 3, 4, 5, 6, 6, 5, 4, 3, 2, 1};
        return (season + 1) * times[hour];
    }

    int shade(int cell, int season, int hour) {
        if (!isCell(cell) || !in(season, 0, 3) || !in(hour, 0, 11)) {
            return -2;
        }
        int found = -1;
        for (int other = 0; other < cells(); other++) {
            boolean sunSide = hour < 6 ? other < cell : other > cell;
            int d = Math.abs(other - cell);
            if (sunSide && other / width() == cell / width()
                    && height(other) + stand[other] - height(cell) > d * steep(season, hour)
                    && (found == -1 || d < Math.abs(found - cell))) {
                found = other;
            }
        }
        return found;
    }

    int light(int cell, int season) {
        if (!isCell(cell) || !in(season, 0, 3)) {
            return -2;
        }
        int bits = 0;
        for (int hour = 0; hour < 12; hour++) {
            bits += shade(cell, season, hour) == -1 ? 1 << hour : 0;
        }
        return bits;
    }

    int hours(int cell, int season) {
        if (!isCell(cell) || !in(season, -1, 3)) {
            return -2;
        }
        int sum = 0;
        for (int q = 0; q < 4; q++) {
            if (season == -1 || season == q) {
                sum += Integer.bitCount(light(cell, q)) * (season == -1 ? days[q] : 1);
            }
        }
        return sum;
    }

    int has(int who, int what) {
        if (!in(who, 0, 3) || !in(what, 0, 1)) {
            return -2;
        }
        int bits = 0;
        int sum = 0;
        for (int c = 0; c < cells(); c++) {
            if (owner[c] == who) {
                bits |= 1 << c;
                sum += hours(c, -1);
            }
        }
        return what == 0 ? bits : sum;
    }

    // parts, roofs

    private int[] years() {
        int[] y = new int[cells()];
        for (int c = 0; c < y.length; c++) {
            y[c] = hours(c, -1);
        }
        return y;
    }

    private boolean hangs(int part) {
        int w = width();
        boolean[] met = new boolean[cells()];
        ArrayDeque<Integer> todo = new ArrayDeque<>();
        todo.add(Integer.numberOfTrailingZeros(part));
        met[todo.peek()] = true;
        int many = 0;
        while (!todo.isEmpty()) {
            int c = todo.remove();
            many++;
            for (int o = 0; o < met.length; o++) {
                int across = Math.abs(c / w - o / w) + Math.abs(c % w - o % w);
                if (across == 1 && (part >> o & 1) == 1 && !met[o]) {
                    met[o] = true;
                    todo.add(o);
                }
            }
        }
        return many == Integer.bitCount(part);
    }

    private static int differ(int[] y, int part) {
        int d = 0;
        for (int c = 0; c < y.length; c++) {
            d += (part >> c & 1) == 1 ? y[c] : -y[c];
        }
        return Math.abs(d);
    }

    private List<Integer> ways() {
        List<Integer> ways = new ArrayList<>();
        int all = (1 << cells()) - 1;
        for (int part = 1; part < all; part++) {
            if ((part & 1) == 1 && hangs(part) && hangs(all ^ part)) {
                ways.add(part);
            }
        }
        return ways;
    }

    int parts(int what) {
        if (!in(what, 0, 1)) {
            return -2;
        }
        int[] y = years();
        int best = -1;
        for (int part : ways()) {
            if (best == -1 || differ(y, part) < differ(y, best)) {
                best = part;
            }
        }
        return best == -1 ? -1 : what == 1 ? best : differ(y, best);
    }

    int taken(int cell, int v, int who) {
        if (!isCell(cell) || !in(v, 0, 20) || !in(who, 0, 3)) {
            return -1000002;
        }
        int now = has(who, 1);
        int was = stand(cell, v);
        int then = has(who, 1);
        stand(cell, was);
        return now - then;
    }

    int highest(int cell, int d) {
        if (!isCell(cell) || !in(d, 0, 99999)) {
            return -2;
        }
        int best = -1;
        for (int v = 0; v <= 20; v++) {
            boolean fits = true;
            for (int who = 0; who < 4; who++) {
                fits &= taken(cell, v, who) <= d;
            }
            best = fits ? v : best;
        }
        return best;
    }

    int again(int cell, int d, int what) {
        if (!isCell(cell) || !in(d, 0, 99999) || !in(what, 0, 1)) {
            return -2;
        }
        int before = parts(1);
        if (stand[cell] == 0 || before == -1) {
            return -3;
        }
        int was = stand(cell, 0);
        int[] y = years();
        stand(cell, was);
        int best = -1;
        for (int part : ways()) {
            if (differ(y, part) <= d
                    && (best == -1 || Integer.bitCount(part ^ before) < Integer.bitCount(best ^ before))) {
                best = part;
            }
        }
        return best == -1 ? -1 : what == 1 ? best : Integer.bitCount(best ^ before);
    }

    // changes, sorts

    int worth(int who, int season, int v) {
        if (!in(who, 0, 3) || !in(season, 0, 3) || !in(v, 0, 9)) {
            return -2;
        }
        int was = worth[who][season];
        worth[who][season] = v;
        return was;
    }

    int value(int cell, int who) {
        if (!isCell(cell) || !in(who, 0, 3)) {
            return -2;
        }
        int sum = 0;
        for (int q = 0; q < 4; q++) {
            sum += hours(cell, q) * days[q] * worth[who][q];
        }
        return sum;
    }

    int change(int a, int b) {
        if (!isCell(a) || !isCell(b) || a == b) {
            return -2;
        }
        boolean aWould = value(b, owner[a]) > value(a, owner[a]);
        boolean bWould = value(a, owner[b]) > value(b, owner[b]);
        return owner[a] != owner[b] && aWould && bWould ? 1 : 0;
    }

    int changes(int ring) {
        if (!in(ring, 0, 1)) {
            return -2;
        }
        int n = cells();
        int twice = 0;
        int thrice = 0;
        int[][] value = new int[n][4];
        for (int c = 0; c < n; c++) {
            for (int who = 0; who < 4; who++) {
                value[c][who] = value(c, who);
            }
        }
        for (int a = 0; a < n; a++) {
            for (int b = 0; b < n; b++) {
                int oa = owner[a];
                int ob = owner[b];
                boolean aWants = value[b][oa] > value[a][oa];
                twice += oa != ob && aWants && value[a][ob] > value[b][ob] ? 1 : 0;
                for (int c = 0; c < n; c++) {
                    int oc = owner[c];
                    boolean unlike = oa != ob && ob != oc && oa != oc;
                    thrice += unlike && aWants && value[c][ob] > value[b][ob] && value[a][oc] > value[c][oc] ? 1 : 0;
                }
            }
        }
        return ring == 0 ? twice / 2 : thrice / 3;
    }

    int sort(int which, int what, int v) {
        if (!in(which, 0, 2) || !in(what, 0, 1) || !in(v, 0, what == 0 ? 9999 : 99)) {
            return -2;
        }
        int was = sort[which][what];
        sort[which][what] = v;
        return was;
    }

    /** What the cells from one on can pay with so many left of each sort, and by which row: the least. */
    private List<Integer> best(int cell, int[] left, int[] years, Map<String, List<Integer>> known) {
        if (cell == years.length) {
            return List.of(0);
        }
        String key = cell + Arrays.toString(left);
        if (!known.containsKey(key)) {
            List<Integer> most = null;
            for (int which = -1; which < 3; which++) {
                if (which >= 0 && (left[which] == 0 || years[cell] < sort[which][0])) {
                    continue;
                }
                int[] then = left.clone();
                int pays = 0;
                if (which >= 0) {
                    then[which]--;
                    pays = sort[which][1];
                }
                List<Integer> rest = best(cell + 1, then, years, known);
                if (most == null || pays + rest.get(0) > most.get(0)) {
                    most = new ArrayList<>();
                    most.add(pays + rest.get(0));
                    most.add(which);
                    most.addAll(rest.subList(1, rest.size()));
                }
            }
            known.put(key, most);
        }
        return known.get(key);
    }

    int set(int cell) {
        if (cell != -1 && !isCell(cell)) {
            return -2;
        }
        return best(0, new int[] {4, 4, 4}, years(), new HashMap<>()).get(cell + 1);
    }

    // seen, clouds

    int seen(int season, int hour) {
        if (!in(season, 0, 3) || !in(hour, 0, 11)) {
            return -2;
        }
        if (seen.size() == 8) {
            return -4;
        }
        seen.add(new int[] {season, hour});
        return seen.size();
    }

    int forget() {
        int n = seen.size();
        seen.clear();
        return n;
    }

    int whose(int what) {
        if (!in(what, 0, 1)) {
            return -2;
        }
        int bits = 0;
        int who = 0;
        for (int c = 0; c < cells(); c++) {
            int cell = c;
            if (seen.stream().allMatch(s -> shade(cell, s[0], s[1]) == -1)) {
                bits |= 1 << c;
                who |= 1 << owner[c];
            }
        }
        return what == 0 ? bits : Integer.bitCount(who);
    }

    int clouds(int season, int v) {
        if (!in(season, 0, 3) || !in(v, 0, 16)) {
            return -2;
        }
        int was = clouds[season];
        clouds[season] = v;
        return was;
    }

    long clear(int cell, int season, int k, int what) {
        if (!isCell(cell) || !in(season, 0, 3) || !in(k, -1, 12) || !in(what, 0, 1)) {
            return Long.MIN_VALUE + 2;
        }
        int n = hours(cell, season);
        BigInteger above = BigInteger.ZERO;
        int[] sets = new int[n + 1];
        for (int set = 0; set < 1 << n; set++) {
            sets[Integer.bitCount(set)]++;
        }
        for (int many = 0; many <= n; many++) {
            BigInteger weight = BigInteger.valueOf(16 - clouds[season]).pow(many)
                    .multiply(BigInteger.valueOf(clouds[season]).pow(n - many)).multiply(BigInteger.valueOf(sets[many]));
            above = above.add(k == -1 ? weight.multiply(BigInteger.valueOf(many)) : many >= k ? weight : BigInteger.ZERO);
        }
        BigInteger below = BigInteger.valueOf(16).pow(n);
        BigInteger by = above.gcd(below);
        return (what == 0 ? above : below).divide(by).longValueExact();
    }

    // sheets

    private static int lowest(int form, int v) {
        return form == 0 ? (v << 24) >> 24 : form == 1 ? (v << 16) >> 16 : v;
    }

    int sheet(int s, int form, int n) {
        if (!in(s, 0, 3) || !in(form, 0, 2) || n > 48) {
            return -2;
        }
        if (n < 0) {
            return find(5);
        }
        forms[s] = form;
        sheets.set(s, new ArrayList<>(java.util.Collections.nCopies(n, 0)));
        return n;
    }

    int lose(int s) {
        if (!in(s, 0, 3)) {
            return -2;
        }
        if (sheets.get(s) == null) {
            return find(1);
        }
        return sheets.set(s, null).size();
    }

    int put(int s, int form, int i, int v) {
        int no = no(s, form, i);
        if (no == 0) {
            sheets.get(s).set(i, lowest(form, v));
        }
        return no == 0 ? 1 : no;
    }

    private int no(int s, int form, int i) {
        if (!in(s, 0, 3) || !in(form, 0, 2)) {
            return -2;
        }
        if (sheets.get(s) == null) {
            return find(1);
        }
        if (forms[s] != form) {
            return find(3);
        }
        return in(i, 0, sheets.get(s).size() - 1) ? 0 : find(2);
    }

    int get(int s, int form, int i) {
        return no(s, form, i) == 0 ? sheets.get(s).get(i) : Integer.MIN_VALUE;
    }

    int copy(int s, int i, int t, int j, int n) {
        if (!in(s, 0, 3) || !in(t, 0, 3)) {
            return -2;
        }
        if (sheets.get(s) == null || sheets.get(t) == null) {
            return find(1);
        }
        if (forms[s] != forms[t]) {
            return find(4);
        }
        boolean fits = i >= 0 && j >= 0 && n >= 0
                && (long) i + n <= sheets.get(s).size() && (long) j + n <= sheets.get(t).size();
        if (!fits) {
            return find(2);
        }
        List<Integer> as = new ArrayList<>(sheets.get(s).subList(i, i + n));
        for (int m = 0; m < n; m++) {
            sheets.get(t).set(j + m, as.get(m));
        }
        return 1;
    }

    int write(int season, int s) {
        if (!in(season, 0, 3) || !in(s, 0, 3)) {
            return -2;
        }
        if (sheets.get(s) == null) {
            return find(1);
        }
        int n = 0;
        for (; n < sheets.get(s).size() && n < cells(); n++) {
            sheets.get(s).set(n, lowest(forms[s], hours(n, season)));
        }
        return n;
    }

    int count(int what) {
        int standing = 0;
        int who = 0;
        int all = 0;
        for (int c = 0; c < cells(); c++) {
            standing += stand[c] > 0 ? 1 : 0;
            who |= 1 << owner[c];
            all += hours(c, -1);
        }
        int[] counts = {cells(), text.length(), rowTexts.length, standing, Integer.bitCount(who),
            seen.size(), all, Arrays.stream(days).sum(), finding};
        return in(what, 0, 8) ? counts[what] : -2;
    }

    long digest() {
        List<Long> told = new ArrayList<>();
        for (int what = 0; what < 8; what++) {
            told.add((long) count(what));
        }
        told.add((long) fault());
        for (int c = 0; c < cells(); c++) {
            for (int v : new int[] {cell(c, 0), cell(c, 1), cell(c, 2), light(c, 0), light(c, 1), light(c, 2),
                light(c, 3), hours(c, -1), shade(c, 0, 3), value(c, 1), highest(c, 500), set(c)}) {
                told.add((long) v);
            }
            told.addAll(List.of(clear(c, 2, -1, 0), clear(c, 2, -1, 1), clear(c, 2, 3, 0), clear(c, 2, 3, 1)));
        }
        for (int v : new int[] {has(0, 0), has(0, 1), has(1, 0), has(1, 1), has(2, 0), has(2, 1), has(3, 0), has(3, 1),
            parts(0), parts(1), again(0, 900, 0), changes(0), changes(1), set(-1), whose(0), whose(1)}) {
            told.add((long) v);
        }
        long h = 17;
        for (long v : told) {
            h = 31 * h + v;
        }
        return h;
    }
}
