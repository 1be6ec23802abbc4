import java.math.BigInteger;
import java.util.ArrayDeque;
import java.util.ArrayList;
import java.util.Arrays;
import java.util.Deque;
import java.util.List;

/** The document again, as plainly and slowly as can be: what OneSocket is compared with. */
final class Model {
    /** What turns change. */
    private static final class World {
        int turn, on, gotUp, missed;
        int[] level, turnsOn;

        World copy() {
            World w = new World();
            w.turn = turn;
            w.on = on;
            w.gotUp = gotUp;
            w.missed = missed;
            w.level = level.clone();
            w.turnsOn = turnsOn.clone();
            return w;
        }

        int outs() {
            return (int) Arrays.stream(level).filter(l -> l == 0).count();
        }
    }

    private final StringBuilder text = new StringBuilder();
    private List<int[]> phones = new ArrayList<>();
    private List<int[]> calls = new ArrayList<>();
    private List<int[]> darks = new ArrayList<>();
    private int holes = 1;
    private World world = fresh();
    private final Deque<World> undoable = new ArrayDeque<>();
    private final World[] images = new World[2];
    private final List<int[]> said = new ArrayList<>();
    private long trace = 0;

    private World fresh() {
        World w = new World();
        w.level = phones.stream().mapToInt(p -> p[0]).toArray();
        w.turnsOn = new int[phones.size()];
        return w;
    }

    int type(int letter) {
        if (letter < 0 || letter > 255) return -1;
        if (text.length() == 200) return -3;
        text.append((char) letter);
        return text.length();
    }

    int clear() {
        int n = text.length();
        text.setLength(0);
        return n;
    }

    /** Tokens with the place of each as {place, kind, number}; kind 0 is a number, -1 none at all. */
    private List<int[]> tokens() {
        List<int[]> all = new ArrayList<>();
        int i = 0;
        while (i < text.length()) {
            char c = text.charAt(i);
            int from = i++;
            if (c == ' ') continue;
            if (c < '0' || c > '9') {
                all.add(new int[] {from, "thcd;".indexOf(c) >= 0 ? c : -1, 0});
                continue;
            }
            while (i < text.length() && text.charAt(i) >= '0' && text.charAt(i) <= '9') i++;
            String digits = text.substring(from, i);
            boolean good = digits.equals("0") || digits.charAt(0) != '0' && digits.length() <= 3
                    && Integer.parseInt(digits) <= 100;
            all.add(new int[] {from, good ? 0 : -1, good ? Integer.parseInt(digits) : 0});
        }
        return all;
    }

    int room() {
        List<int[]> p = new ArrayList<>();
        List<int[]> c = new ArrayList<>();
        List<int[]> d = new ArrayList<>();
        int h = 0;
        int items = 0;
        int kind = 0;
        List<Integer> numbers = new ArrayList<>();
        for (int[] token : tokens()) {
            int fault = -10 - token[0];
            if (kind == 0) {
                kind = token[1];
                boolean fits = kind == 't' && p.size() < 5 || kind == 'h' && h == 0
                        || kind == 'c' && c.size() < 8 || kind == 'd' && d.size() < 2;
                if (!fits) return fault;
                numbers.clear();
                continue;
            }
            int due = kind == 'h' ? 1 : kind == 'd' ? 2 : 3;
            if (numbers.size() == due) {
                if (token[1] != ';') return fault;
                int[] row = numbers.stream().mapToInt(x -> x).toArray();
                if (kind == 't') p.add(row);
                if (kind == 'c') c.add(row);
                if (kind == 'd') d.add(row);
                if (kind == 'h') h = row[0];
                items++;
                kind = 0;
                continue;
            }
            if (token[1] != 0) return fault;
            int at = numbers.size();
            int low = kind == 't' && at == 1 || kind == 'h' || kind == 'c' && at == 2 ? 1
                    : kind == 'd' && at == 1 ? numbers.get(0) : 0;
            int high = kind == 't' ? new int[] {100, 30, 9}[at] : kind == 'h' ? 2
                    : kind == 'd' ? 60 : new int[] {p.size() - 1, 60, 50}[at];
            if (token[2] < low || token[2] > high) return fault;
            numbers.add(token[2]);
        }
        if (kind != 0) return -10 - text.length();
        phones = p;
        calls = c;
        darks = d;
        holes = h == 0 ? 1 : h;
        world = fresh();
        undoable.clear();
        said.clear();
        Arrays.fill(images, null);
        text.setLength(0);
        return items;
    }

    private boolean none(int k) {
        return k < 0 || k >= phones.size();
    }

    int phone(int k, int what) {
        if (none(k) || what < 0 || what > 4) return -1;
        int[] all = {world.level[k], phones.get(k)[1], phones.get(k)[2], world.turnsOn[k],
            (world.on & 1 << k) != 0 ? 1 : 0};
        return all[what];
    }

    int call(int i, int what) {
        return i < 0 || i >= calls.size() || what < 0 || what > 2 ? -1 : calls.get(i)[what];
    }

    int dark(int t) {
        return t < 0 || t > 160 ? -1 : isDark(t) ? 1 : 0;
    }

    private boolean isDark(int t) {
        return darks.stream().anyMatch(d -> d[0] <= t && t <= d[1]);
    }

    private boolean fits(int set) {
        int bits = 0;
        for (int i = 0; i < 32; i++) {
            if ((set >>> i & 1) == 1) {
                if (none(i)) return false;
                bits++;
            }
        }
        return bits <= holes;
    }

    private void remember() {
        undoable.addLast(world.copy());
        if (undoable.size() > 10) undoable.removeFirst();
    }

    private static void put(World w, int set) {
        if (w.on != set) w.gotUp++;
        w.on = set;
    }

    private int fill(int k, int level) {
        int by = phones.get(k)[1];
        int to = level >= 80 ? level + (by < 2 ? 1 : by / 2) : level + by;
        return to > 100 ? 100 : to;
    }

    private int run(int k, int level) {
        int to = level - phones.get(k)[2];
        return to < 0 ? 0 : to;
    }

    private void pass(World w) {
        for (int[] c : calls) {
            if (c[1] != w.turn) continue;
            if (w.level[c[0]] < c[2]) w.missed++;
            else w.level[c[0]] -= c[2];
        }
        for (int k = 0; k < phones.size(); k++) {
            boolean fills = (w.on & 1 << k) != 0 && !isDark(w.turn);
            w.level[k] = fills ? fill(k, w.level[k]) : run(k, w.level[k]);
            w.turnsOn[k] += fills ? 1 : 0;
        }
        w.turn++;
    }

    int puts(int set) {
        if (!fits(set)) return -1;
        remember();
        put(world, set);
        return world.gotUp;
    }

    int turn() {
        if (world.turn == 99) return -2;
        remember();
        pass(world);
        return world.outs();
    }

    int lends(int k, int n) {
        if (none(k) || n < 1 || n > 50) return -1;
        if (world.level[k] < n) return -2;
        remember();
        return world.level[k] -= n;
    }

    int undo() {
        if (undoable.isEmpty()) return -2;
        world = undoable.removeLast();
        return undoable.size();
    }

    int now(int what) {
        if (what < 0 || what > 7) return -1;
        int bits = 0;
        for (int k = 0; k < phones.size(); k++) bits += world.level[k] == 0 ? 1 << k : 0;
        int fair = Arrays.stream(world.turnsOn).max().orElse(0) - Arrays.stream(world.turnsOn).min().orElse(0);
        int leans = phones.size() < 2 ? -9 : 10 * firstWith(Arrays.stream(world.level).max().getAsInt())
                + firstWith(Arrays.stream(world.level).min().getAsInt());
        return new int[] {world.turn, world.on, bits, world.missed, world.gotUp, fair, leans,
            undoable.size()}[what];
    }

    private int firstWith(int level) {
        for (int k = 0; k < phones.size(); k++) if (world.level[k] == level) return k;
        return -1;
    }

    int plan(int n, int what) {
        if (n < 0 || n > 4 || what < 0 || what > 6) return -1;
        if (what < 4 && what >= n) return -5;
        int[] best = new int[7];
        best[4] = Integer.MAX_VALUE;
        allRows(world.copy(), n, 0, new int[7], best);
        return best[what];
    }

    private void allRows(World w, int n, int depth, int[] row, int[] best) {
        if (depth == n) {
            row[4] = w.missed - world.missed;
            row[5] = w.outs();
            row[6] = w.gotUp - world.gotUp;
            int order = Arrays.compare(row, 4, 7, best, 4, 7);
            if (order < 0 || order == 0 && Arrays.compare(row, 0, n, best, 0, n) < 0) {
                System.arraycopy(row, 0, best, 0, 7);
            }
            return;
        }
        // From the last set to the first, so that the order of the search is not what picks the first row.
        for (int set = (1 << phones.size()) - 1; set >= 0; set--) {
            if (!fits(set)) continue;
            World next = w.copy();
            put(next, set);
            pass(next);
            row[depth] = set;
            allRows(next, n, depth + 1, row, best);
        }
    }

    int fullBy(int k, int v) {
        if (none(k) || v < 0 || v > 100) return -1;
        World w = world.copy();
        w.on = 1 << k;
        for (int n = 0; n <= 60; n++) {
            if (w.level[k] >= v) return n;
            pass(w);
        }
        return -9;
    }

    int latest(int k, int t) {
        if (none(k) || t < world.turn || t > 60) return -1;
        int found = -9;
        for (int from = world.turn; from <= t + 1; from++) {
            World w = world.copy();
            boolean held = true;
            while (w.turn <= t) {
                w.on = w.turn >= from ? 1 << k : 0;
                int left = w.level[k];
                for (int[] c : calls) {
                    if (c[0] == k && c[1] == w.turn) left -= c[2];
                }
                held = held && left >= 0;
                pass(w);
            }
            found = held ? from : found;
        }
        return found;
    }

    int says(int k, int n, int t, int v) {
        if (none(k) || n < 0 || n > 100 || t < 1 || t > 20 || v < 0 || v > 100) return -1;
        if (said.size() == 6) return -3;
        said.add(new int[] {k, n, t, v});
        return said.size();
    }

    int forget() {
        int n = said.size();
        said.clear();
        return n;
    }

    private int ends(int[] line, int level) {
        int l = level;
        for (int i = 0; i < line[2]; i++) l = fill(line[0], l);
        return l;
    }

    int could(int i, int what) {
        if (i < 0 || i >= said.size() || what < 0 || what > 2) return -1;
        List<Integer> fit = new ArrayList<>();
        for (int l = 0; l <= 100; l++) if (ends(said.get(i), l) == said.get(i)[3]) fit.add(l);
        if (what == 0) return fit.size();
        return fit.isEmpty() ? -9 : fit.get(what == 1 ? 0 : fit.size() - 1);
    }

    int liars() {
        int bits = 0;
        for (int i = 0; i < said.size(); i++) {
            if (ends(said.get(i), said.get(i)[1]) != said.get(i)[3]) bits += 1 << i;
        }
        return bits;
    }

    long odds(int k, int v, int p, int n, int what) {
        if (none(k) || v < 0 || v > 100 || p < 0 || p > 10 || n < 0 || n > 9 || what < 0 || what > 1) return -1;
        BigInteger upper = BigInteger.ZERO;
        for (int falls = 0; falls < 1 << n; falls++) {
            int level = world.level[k];
            for (int i = 0; i < n; i++) level = (falls >> i & 1) == 1 ? run(k, level) : fill(k, level);
            int out = Integer.bitCount(falls);
            if (level >= v) {
                upper = upper.add(BigInteger.valueOf(p).pow(out).multiply(BigInteger.valueOf(10 - p).pow(n - out)));
            }
        }
        BigInteger lower = BigInteger.TEN.pow(n);
        return (what == 0 ? upper : lower).divide(upper.gcd(lower)).longValueExact();
    }

    int rate(int kind, int k) {
        if (none(k) || kind < 0 || kind > 5) return -1000000;
        int level = world.level[k];
        int has = (int) calls.stream().filter(c -> c[0] == k).count();
        int runs = phones.get(k)[2];
        trace += new long[] {1, 11, 101, 1011, 10101, 100001}[kind];
        return new int[] {level, level + has, level - runs, 2 * (level + has), level - runs + k,
            level + world.turnsOn[k]}[kind];
    }

    int keep(int image) {
        if (image < 0 || image > 1) return -1;
        images[image] = world.copy();
        return world.turn;
    }

    int back(int image) {
        if (image < 0 || image > 1) return -1;
        if (images[image] == null) return -2;
        world = images[image].copy();
        undoable.clear();
        return world.turn;
    }

    int count(int what) {
        if (what < 0 || what > 5) return -1;
        return new int[] {phones.size(), holes, calls.size(), darks.size(), said.size(), text.length()}[what];
    }

    long trace() {
        return trace;
    }
}
