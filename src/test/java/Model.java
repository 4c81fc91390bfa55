import java.math.BigInteger;
import java.util.ArrayList;
import java.util.Arrays;
import java.util.HashMap;
import java.util.List;
import java.util.Map;
import java.util.TreeMap;

/**
 * The document once more, in another way and slowly: cells in a map, sides counted square by square,
 * flows kept in a table, fractions of great whole numbers, deals by looking at all of them.
 */
public final class Model {
    private static final int BAD = -1, FINDING = -3, STATE = -4, NONE = -9;

    private static final class Cell {
        int kind;
        int amount;
        int machine;
        int mark;
        boolean ticked;

        Cell(int kind, int amount, int machine) {
            this.kind = kind;
            this.amount = amount;
            this.machine = machine;
        }
    }

    private static final class State {
        TreeMap<Integer, Cell> cells;
        int ticks;
    }

    private static final class Ratio {
        final BigInteger above;
        final BigInteger below;

        Ratio(BigInteger a, BigInteger b) {
            BigInteger g = a.gcd(b);
            above = a.divide(g);
            below = b.divide(g);
        }

        static Ratio of(long a, long b) {
            return new Ratio(BigInteger.valueOf(a), BigInteger.valueOf(b));
        }

        Ratio plus(Ratio o) {
            return new Ratio(above.multiply(o.below).add(o.above.multiply(below)), below.multiply(o.below));
        }

        Ratio minus(Ratio o) {
            return new Ratio(above.multiply(o.below).subtract(o.above.multiply(below)), below.multiply(o.below));
        }

        Ratio times(Ratio o) {
            return new Ratio(above.multiply(o.above), below.multiply(o.below));
        }

        int compare(Ratio o) {
            return above.multiply(o.below).compareTo(o.above.multiply(below));
        }
    }

    private final Map<Integer, int[]> rows = new TreeMap<>();
    private final Map<Integer, byte[]> texts = new TreeMap<>();
    private TreeMap<Integer, Cell> cells = new TreeMap<>();
    private int ticks;
    private int n = 0;
    private int m = 1;
    private int open = 0;
    private int partMark = -1;
    private int joinMark = -1;
    private Map<String, Integer> flows = new HashMap<>();
    private long left;
    private long putIn;
    private final int[] kinds = new int[6];
    private final int[] ends = new int[6];
    private final int[] waited = {NONE, NONE, NONE, NONE, NONE, NONE};
    private final State[] kept = new State[2];
    private int asked;
    private Ratio ratio = Ratio.of(0, 1);
    private int finding;
    private final int[] findings = new int[6];

    public Model() {
        for (int c = 0; c < 16; c++) {
            cells.put(c, new Cell(0, 0, 0));
        }
    }

    private int found(int f) {
        finding = f;
        findings[f]++;
        return FINDING;
    }

    private static boolean name(int c) {
        return 0 <= c && c <= 335;
    }

    private static int[] place(int c) {
        if (c < 16) {
            return new int[] {c % 4 * 4, c / 4 * 4, 4};
        }
        int side = c < 80 ? 2 : 1;
        int in = c < 80 ? (c - 16) / 4 : (c - 80) / 4 + 16;
        int q = c < 80 ? (c - 16) % 4 : (c - 80) % 4;
        int[] around = place(in);
        return new int[] {around[0] + (q == 1 || q == 3 ? side : 0), around[1] + (q >= 2 ? side : 0), side};
    }

    private static int child(int c, int q) {
        return c < 16 ? 16 + 4 * c + q : 80 + 4 * (c - 16) + q;
    }

    private static int side(int c) {
        return place(c)[2];
    }

    /** -1 beyond the rim. */
    private int[][] map() {
        int[][] map = new int[18][18];
        for (int[] line : map) {
            Arrays.fill(line, -1);
        }
        for (int c : cells.keySet()) {
            int[] p = place(c);
            for (int y = p[1]; y < p[1] + p[2]; y++) {
                for (int x = p[0]; x < p[0] + p[2]; x++) {
                    map[y + 1][x + 1] = c;
                }
            }
        }
        return map;
    }

    /** Sides by pairs of names; those at the rim with the name -1. */
    private Map<Integer, Map<Integer, Integer>> sides() {
        int[][] map = map();
        Map<Integer, Map<Integer, Integer>> sides = new TreeMap<>();
        for (int c : cells.keySet()) {
            sides.put(c, new TreeMap<>());
        }
        int[][] ways = {{0, 1}, {1, 0}, {0, -1}, {-1, 0}};
        for (int y = 1; y <= 16; y++) {
            for (int x = 1; x <= 16; x++) {
                for (int[] way : ways) {
                    int other = map[y + way[0]][x + way[1]];
                    if (other != map[y][x]) {
                        sides.get(map[y][x]).merge(other, 1, Integer::sum);
                    }
                }
            }
        }
        return sides;
    }

    public int row(int r, int n) {
        if (r < 0 || r > 5 || n > 40) {
            return BAD;
        }
        if (n < 0) {
            return found(5);
        }
        rows.put(r, new int[n]);
        return n;
    }

    public int lay(int r, int i, int v) {
        if (r < 0 || r > 5) {
            return BAD;
        }
        if (!rows.containsKey(r)) {
            return found(1);
        }
        int[] row = rows.get(r);
        if (i < 0 || i >= row.length) {
            return found(2);
        }
        asked = row[i];
        row[i] = v;
        return 1;
    }

    public int tear(int r) {
        if (r < 0 || r > 5) {
            return BAD;
        }
        return rows.remove(r) == null ? found(1) : 1;
    }

    public int copy(int r, int i, int to, int j, int n) {
        if (r < 0 || r > 5 || to < 0 || to > 5) {
            return BAD;
        }
        if (n < 0) {
            return found(5);
        }
        int[] from = rows.get(r);
        int[] into = rows.get(to);
        if (from == null || into == null) {
            return found(1);
        }
        if (i < 0 || j < 0 || (long) i + n > from.length || (long) j + n > into.length) {
            return found(2);
        }
        int[] taken = Arrays.copyOfRange(from, i, i + n);
        for (int k = 0; k < n; k++) {
            into[j + k] = taken[k];
        }
        return 1;
    }

    public int average(int r) {
        if (r < 0 || r > 5) {
            return BAD;
        }
        if (!rows.containsKey(r)) {
            return found(1);
        }
        int[] row = rows.get(r);
        if (row.length == 0) {
            return found(4);
        }
        BigInteger all = BigInteger.ZERO;
        for (int v : row) {
            all = all.add(BigInteger.valueOf(v));
        }
        asked = all.divide(BigInteger.valueOf(row.length)).intValueExact();
        return 1;
    }

    public int text(int t, int n) {
        if (t < 0 || t > 3 || n > 40) {
            return BAD;
        }
        if (n < 0) {
            return found(5);
        }
        byte[] text = new byte[n];
        Arrays.fill(text, (byte) 32);
        texts.put(t, text);
        return n;
    }

    public int put(int t, int i, int v) {
        if (t < 0 || t > 3) {
            return BAD;
        }
        if (!texts.containsKey(t)) {
            return found(1);
        }
        byte[] text = texts.get(t);
        if (i < 0 || i >= text.length) {
            return found(2);
        }
        int was = text[i];
        text[i] = (byte) v;
        return was + 1000;
    }

    /** n, m, O, P, J behind the first place; NONE there if there is no fault. */
    private int[] parsed(byte[] text) {
        int[] law = {NONE, 0, 1, 0, -1, -1};
        int[] stop = {0};
        String signs = new String(text, java.nio.charset.StandardCharsets.ISO_8859_1);
        while (stop[0] < signs.length()) {
            char kind = signs.charAt(stop[0]);
            if (kind == ' ') {
                stop[0]++;
                continue;
            }
            if ("FOPJ".indexOf(kind) < 0) {
                law[0] = stop[0];
                return law;
            }
            stop[0]++;
            String digits = digits(signs, stop, kind == 'F' ? 2 : kind == 'O' ? 1 : 6, kind == 'O' ? "01" : "0123456789");
            boolean fine = !digits.isEmpty();
            if (fine && kind == 'F') {
                fine = stop[0] < signs.length() && signs.charAt(stop[0]) == '/';
                if (fine) {
                    stop[0]++;
                    String lower = digits(signs, stop, 2, "0123456789");
                    fine = !lower.isEmpty() && Integer.parseInt(lower) > 0
                            && Integer.parseInt(digits) <= Integer.parseInt(lower);
                    if (fine) {
                        law[1] = Integer.parseInt(digits);
                        law[2] = Integer.parseInt(lower);
                    }
                }
            } else if (fine && kind == 'P' && Integer.parseInt(digits) == 0) {
                fine = false;
            } else if (fine) {
                law[kind == 'O' ? 3 : kind == 'P' ? 4 : 5] = Integer.parseInt(digits);
            }
            if (!fine) {
                law[0] = stop[0];
                return law;
            }
        }
        return law;
    }

    private static String digits(String signs, int[] stop, int most, String of) {
        int start = stop[0];
        while (stop[0] < signs.length() && stop[0] - start < most && of.indexOf(signs.charAt(stop[0])) >= 0) {
            stop[0]++;
        }
        return signs.substring(start, stop[0]);
    }

    public int fault(int t) {
        if (t < 0 || t > 3) {
            return BAD;
        }
        return texts.containsKey(t) ? parsed(texts.get(t))[0] : found(1);
    }

    public int field(int t) {
        if (t < 0 || t > 3) {
            return BAD;
        }
        if (!texts.containsKey(t)) {
            return found(1);
        }
        int[] law = parsed(texts.get(t));
        if (law[0] != NONE) {
            return STATE;
        }
        n = law[1];
        m = law[2];
        open = law[3];
        partMark = law[4];
        joinMark = law[5];
        return 1;
    }

    public int amount(int c, int v) {
        if (!name(c) || v < 0 || v > 1000000) {
            return BAD;
        }
        Cell cell = cells.get(c);
        if (cell == null) {
            return found(1);
        }
        int was = cell.amount;
        cell.amount = v;
        return was;
    }

    public int fill(int r) {
        if (r < 0 || r > 5) {
            return BAD;
        }
        if (!rows.containsKey(r)) {
            return found(1);
        }
        int[] row = rows.get(r);
        if (row.length != 16) {
            return found(5);
        }
        if (Arrays.stream(row).anyMatch(v -> v < 0 || v > 1000000)) {
            return found(3);
        }
        int did = 0;
        for (Map.Entry<Integer, Cell> e : cells.headMap(16).entrySet()) {
            e.getValue().amount = row[e.getKey()];
            did++;
        }
        return did;
    }

    public int told(int c, int what) {
        if (!name(c) || what < 0 || what > 5) {
            return BAD;
        }
        Cell cell = cells.get(c);
        if (cell == null) {
            return found(1);
        }
        int[] p = place(c);
        asked = new int[] {cell.kind, cell.amount, p[2], p[0], p[1], cell.machine}[what];
        return 1;
    }

    public int mark(int c, int kind) {
        if (!name(c) || kind < 1 || kind > 4) {
            return BAD;
        }
        Cell cell = cells.get(c);
        if (cell == null) {
            return found(1);
        }
        if (kind == 1) {
            return cell.kind != 1 && cell.kind != 2 ? found(3) : c < 80 ? (c - 16) / 4 : 16 + (c - 80) / 4;
        }
        if (cell.kind != kind) {
            return found(3);
        }
        return kind == 2 && !cell.ticked ? cell.amount : cell.mark;
    }

    public int at(int x, int y) {
        return x < 0 || x > 15 || y < 0 || y > 15 ? BAD : map()[y + 1][x + 1];
    }

    private void parts(int c) {
        Cell cell = cells.remove(c);
        int rest = cell.amount;
        for (int q = 0; q < 4; q++) {
            int share = (rest + 3 - q) / (4 - q);
            rest -= share;
            cells.put(child(c, q), new Cell(1, share, cell.machine));
        }
    }

    private void joins(int c) {
        int all = 0;
        int machine = cells.get(child(c, 0)).machine;
        for (int q = 0; q < 4; q++) {
            all += cells.remove(child(c, q)).amount;
        }
        cells.put(c, new Cell(c < 16 ? 0 : 1, all, machine));
    }

    private boolean four(int c) {
        return cells.containsKey(child(c, 0)) && cells.containsKey(child(c, 1))
                && cells.containsKey(child(c, 2)) && cells.containsKey(child(c, 3));
    }

    private boolean fourFine(int c) {
        boolean fine = four(c);
        for (int q = 0; q < 4 && fine; q++) {
            fine = cells.get(child(c, q)).kind == 1;
        }
        return fine;
    }

    private int together(int c) {
        int all = 0;
        for (int q = 0; q < 4; q++) {
            all += cells.get(child(c, q)).amount;
        }
        return all;
    }

    public int part(int c) {
        if (!name(c)) {
            return BAD;
        }
        if (!cells.containsKey(c)) {
            return found(1);
        }
        if (cells.get(c).kind > 1 || side(c) == 1) {
            return found(3);
        }
        parts(c);
        return child(c, 0);
    }

    public int join(int c) {
        if (c < 0 || c > 79) {
            return BAD;
        }
        if (!four(c)) {
            return found(1);
        }
        if (!fourFine(c)) {
            return found(3);
        }
        int all = together(c);
        if (all > 1000000) {
            return found(2);
        }
        joins(c);
        return all;
    }

    private int becomes(int c, int from, int to) {
        if (!name(c)) {
            return BAD;
        }
        Cell cell = cells.get(c);
        if (cell == null) {
            return found(1);
        }
        if (cell.kind != from) {
            return found(3);
        }
        cell.kind = to;
        cell.ticked = false;
        cell.mark = to == 4 ? ticks : 0;
        return 1;
    }

    public int edge(int c, boolean back) {
        return becomes(c, back ? 3 : 0, back ? 0 : 3);
    }

    public int freeze(int c, boolean back) {
        return becomes(c, back ? 4 : 0, back ? 0 : 4);
    }

    public int see(int c, boolean back) {
        return becomes(c, back ? 2 : 1, back ? 1 : 2);
    }

    public int tick() {
        Map<String, Integer> now = new HashMap<>();
        Map<Integer, Integer> in = new HashMap<>();
        Map<Integer, Integer> out = new HashMap<>();
        long leaves = 0;
        for (Map.Entry<Integer, Map<Integer, Integer>> e : sides().entrySet()) {
            int c = e.getKey();
            Cell cell = cells.get(c);
            for (Map.Entry<Integer, Integer> s : e.getValue().entrySet()) {
                int to = s.getKey();
                boolean none = cell.kind == 4 || (to < 0 ? open == 0 : cells.get(to).kind == 4);
                if (none) {
                    continue;
                }
                BigInteger above = BigInteger.valueOf(cell.amount).multiply(BigInteger.valueOf((long) n * s.getValue()));
                int f = above.divide(BigInteger.valueOf(4L * m * side(c))).intValueExact();
                out.merge(c, f, Integer::sum);
                if (to < 0) {
                    leaves += f;
                } else {
                    in.merge(to, f, Integer::sum);
                    now.put(c + " " + to, f);
                }
            }
        }
        for (int c : cells.keySet()) {
            if (cells.get(c).kind != 3
                    && cells.get(c).amount - out.getOrDefault(c, 0) + in.getOrDefault(c, 0) > 1000000) {
                return STATE;
            }
        }
        flows = now;
        left += leaves;
        for (int c : cells.keySet()) {
            Cell cell = cells.get(c);
            int comes = in.getOrDefault(c, 0);
            if (cell.kind == 3) {
                cell.mark = comes;
                left += comes;
                putIn += out.getOrDefault(c, 0);
                continue;
            }
            if (cell.kind == 2) {
                cell.mark = cell.amount;
                cell.ticked = true;
            }
            cell.amount += comes - out.getOrDefault(c, 0);
        }
        ticks++;
        int did = 0;
        for (int c : new ArrayList<>(cells.keySet())) {
            Cell cell = cells.get(c);
            if (partMark != -1 && cell.kind <= 1 && side(c) > 1 && cell.amount > partMark) {
                parts(c);
                did++;
            }
        }
        for (int c = 79; c >= 0; c--) {
            if (joinMark != -1 && fourFine(c) && together(c) < joinMark) {
                joins(c);
                did += 100;
            }
        }
        return did;
    }

    public int flow(int a, int b) {
        return name(a) && name(b) ? flows.getOrDefault(a + " " + b, 0) : BAD;
    }

    public long sum() {
        return cells.values().stream().mapToLong(c -> c.amount).sum();
    }

    public int top() {
        int best = cells.firstKey();
        for (int c : cells.keySet()) {
            best = cells.get(c).amount > cells.get(best).amount ? c : best;
        }
        return best;
    }

    public long over(int which) {
        return which == 0 ? left : which == 1 ? putIn : 0;
    }

    private int cellsOf(int machine) {
        return (int) cells.values().stream().filter(c -> c.machine == machine).count();
    }

    public int machine(int mm, int kind) {
        if (mm < 0 || mm > 5 || kind < 0 || kind > 4) {
            return BAD;
        }
        if (kind == 4 && cellsOf(mm) > 0) {
            return STATE;
        }
        int was = kinds[mm];
        kinds[mm] = kind;
        return was;
    }

    public int give(int c, int mm) {
        if (!name(c) || mm < 0 || mm > 5) {
            return BAD;
        }
        if (!cells.containsKey(c)) {
            return found(1);
        }
        if (kinds[mm] == 4) {
            return STATE;
        }
        int was = cells.get(c).machine;
        cells.get(c).machine = mm;
        return was;
    }

    public int bears(int mm, int kind) {
        if (mm < 0 || mm > 5 || kind < 1 || kind > 4) {
            return BAD;
        }
        boolean is = kinds[mm] == kind || kind == 2 && kinds[mm] == 3;
        if (!is) {
            return found(3);
        }
        switch (kind) {
            case 1:
                return work(mm);
            case 2:
                return cellsOf(mm);
            case 3:
                return cells.values().stream().filter(c -> c.machine == mm).mapToInt(c -> c.amount).max().orElse(0);
            default:
                return (int) Arrays.stream(kinds, 0, mm).filter(k -> k == 4).count();
        }
    }

    public int work(int mm) {
        if (mm < 0 || mm > 5) {
            return BAD;
        }
        int cellsToDo = (int) cells.values().stream().filter(c -> c.machine == mm && c.kind != 4).count();
        return kinds[mm] == 1 ? 2 * cellsToDo : cellsToDo;
    }

    public int cuts() {
        int all = 0;
        for (Map.Entry<Integer, Map<Integer, Integer>> e : sides().entrySet()) {
            for (Map.Entry<Integer, Integer> s : e.getValue().entrySet()) {
                if (s.getKey() >= 0 && cells.get(s.getKey()).machine != cells.get(e.getKey()).machine) {
                    all += s.getValue();
                }
            }
        }
        return all / 2;
    }

    private static int onCurve(int c) {
        int[] p = place(c);
        String bits = "";
        for (int b = 3; b >= 0; b--) {
            bits += (p[1] >> b & 1) + "" + (p[0] >> b & 1);
        }
        return Integer.parseInt(bits, 2);
    }

    private List<Integer> curve() {
        List<Integer> order = new ArrayList<>(cells.keySet());
        order.sort((a, b) -> Integer.compare(onCurve(a), onCurve(b)));
        return order;
    }

    public int curve(int i) {
        if (i < 0) {
            return BAD;
        }
        List<Integer> order = curve();
        return i < order.size() ? order.get(i) : NONE;
    }

    /** The least greatest work of the cells from one on for the machines from one on; all deals are looked at. */
    public int deal(int set) {
        if (set <= 0 || set > 63) {
            return BAD;
        }
        List<Integer> told = new ArrayList<>();
        for (int mm = 0; mm < 6; mm++) {
            if ((set & 1 << mm) != 0) {
                told.add(mm);
                if (kinds[mm] == 4) {
                    return STATE;
                }
            }
        }
        List<Integer> order = curve();
        int size = order.size();
        int[][] least = new int[told.size() + 1][size + 1];
        for (int[] line : least) {
            Arrays.fill(line, Integer.MAX_VALUE);
        }
        least[told.size()][size] = 0;
        for (int k = told.size() - 1; k >= 0; k--) {
            for (int from = 0; from <= size; from++) {
                int load = 0;
                for (int to = from; to <= size; to++) {
                    least[k][from] = Math.min(least[k][from], Math.max(load, least[k + 1][to]));
                    load += to < size ? worth(order.get(to), told.get(k)) : 0;
                }
            }
        }
        int goal = least[0][0];
        int from = 0;
        for (int k = 0; k < told.size(); k++) {
            int load = 0;
            int best = -1;
            for (int to = from; to <= size; to++) {
                if (load <= goal && least[k + 1][to] <= goal) {
                    best = to;
                }
                load += to < size ? worth(order.get(to), told.get(k)) : 0;
            }
            for (int i = from; i < best; i++) {
                cells.get(order.get(i)).machine = told.get(k);
            }
            from = best;
        }
        return goal;
    }

    private int worth(int c, int mm) {
        return cells.get(c).kind == 4 ? 0 : kinds[mm] == 1 ? 2 : 1;
    }

    public int run(int count, int wait) {
        if (count < 1 || count > 20 || wait < 0 || wait > 50) {
            return BAD;
        }
        boolean[][] beside = new boolean[6][6];
        for (Map.Entry<Integer, Map<Integer, Integer>> e : sides().entrySet()) {
            for (int other : e.getValue().keySet()) {
                if (other >= 0) {
                    beside[cells.get(e.getKey()).machine][cells.get(other).machine] = true;
                }
            }
        }
        int[] now = new int[6];
        for (int t = 0; t < count; t++) {
            int[] next = new int[6];
            for (int a = 0; a < 6; a++) {
                int latest = now[a];
                waited[a] = a;
                for (int b = 0; b < 6; b++) {
                    if (b != a && beside[a][b] && now[b] + wait > latest) {
                        latest = now[b] + wait;
                        waited[a] = b;
                    }
                }
                next[a] = latest + work(a);
            }
            now = next;
        }
        System.arraycopy(now, 0, ends, 0, 6);
        return Arrays.stream(now).max().getAsInt();
    }

    public int ran(int mm, int what) {
        return mm < 0 || mm > 5 || what < 0 || what > 1 ? BAD : what == 0 ? ends[mm] : waited[mm];
    }

    private static TreeMap<Integer, Cell> copyOf(TreeMap<Integer, Cell> cells, int ticks) {
        TreeMap<Integer, Cell> copy = new TreeMap<>();
        for (Map.Entry<Integer, Cell> e : cells.entrySet()) {
            Cell cell = new Cell(e.getValue().kind, e.getValue().amount, e.getValue().machine);
            cell.mark = cell.kind == 4 ? ticks : 0;
            copy.put(e.getKey(), cell);
        }
        return copy;
    }

    public int keep(int slot) {
        if (slot < 0 || slot > 1) {
            return BAD;
        }
        kept[slot] = new State();
        kept[slot].cells = copyOf(cells, ticks);
        kept[slot].ticks = ticks;
        return cells.size();
    }

    public int goOn(int slot) {
        if (slot < 0 || slot > 1) {
            return BAD;
        }
        if (kept[slot] == null) {
            return found(1);
        }
        ticks = kept[slot].ticks;
        cells = copyOf(kept[slot].cells, ticks);
        return ticks;
    }

    public int flip(int c, int bit) {
        if (!name(c) || bit < 0 || bit > 18) {
            return BAD;
        }
        Cell cell = cells.get(c);
        if (cell == null) {
            return found(1);
        }
        BigInteger flipped = BigInteger.valueOf(cell.amount).flipBit(bit);
        if (flipped.compareTo(BigInteger.valueOf(1000000)) > 0) {
            return found(2);
        }
        cell.amount = flipped.intValue();
        return cell.amount;
    }

    public int find(int slot) {
        if (slot < 0 || slot > 1) {
            return BAD;
        }
        if (kept[slot] == null) {
            return found(1);
        }
        if (!cells.keySet().equals(kept[slot].cells.keySet())) {
            return STATE;
        }
        List<Integer> others = new ArrayList<>();
        for (int c : cells.keySet()) {
            if (cells.get(c).amount != kept[slot].cells.get(c).amount) {
                others.add(c);
            }
        }
        if (others.isEmpty()) {
            return NONE;
        }
        if (others.size() > 1) {
            return STATE;
        }
        int c = others.get(0);
        asked = cells.get(c).amount - kept[slot].cells.get(c).amount;
        return c;
    }

    public int stops(int mm) {
        if (mm < 0 || mm > 5) {
            return BAD;
        }
        for (int spare = 0; spare < 6 && kinds[mm] != 4; spare++) {
            if (kinds[spare] == 4) {
                kinds[spare] = 0;
                for (Cell cell : cells.values()) {
                    cell.machine = cell.machine == mm ? spare : cell.machine;
                }
                return spare;
            }
        }
        return STATE;
    }

    private static Ratio expected(int k, int d, int c) {
        BigInteger all = BigInteger.valueOf(d).pow(k);
        BigInteger fine = BigInteger.valueOf(d - 1).pow(k);
        Ratio ticksTaken = new Ratio(BigInteger.valueOf(d).multiply(all.subtract(fine)), fine);
        return ticksTaken.plus(Ratio.of(c, 1)).times(Ratio.of(1, k));
    }

    public int keeping(int k, int d, int c) {
        if (k < 1 || k > 8 || d < 2 || d > 20 || c < 0 || c > 20) {
            return BAD;
        }
        ratio = expected(k, d, c);
        return 1;
    }

    public int best(int d, int c) {
        if (d < 2 || d > 20 || c < 0 || c > 20) {
            return BAD;
        }
        int best = 1;
        for (int k = 2; k <= 8; k++) {
            best = expected(k, d, c).compare(expected(best, d, c)) < 0 ? k : best;
        }
        ratio = expected(best, d, c);
        return best;
    }

    /** From the start on: where one unit of a cell is after t ticks. */
    private Map<Integer, Ratio> spread(int from, int t, Map<Integer, Map<Integer, Integer>> sides) {
        Map<Integer, Ratio> now = new TreeMap<>();
        now.put(from, Ratio.of(1, 1));
        for (int i = 0; i < t; i++) {
            Map<Integer, Ratio> next = new TreeMap<>();
            for (Map.Entry<Integer, Ratio> e : now.entrySet()) {
                int c = e.getKey();
                Ratio stays = e.getValue();
                int kind = cells.get(c).kind;
                for (Map.Entry<Integer, Integer> s : sides.get(c).entrySet()) {
                    int to = s.getKey();
                    if (kind == 3 || kind == 4 || (to < 0 ? open == 0 : cells.get(to).kind == 4)) {
                        continue;
                    }
                    Ratio goes = e.getValue().times(Ratio.of((long) n * s.getValue(), 4L * m * side(c)));
                    stays = stays.minus(goes);
                    if (to >= 0) {
                        next.merge(to, goes, Ratio::plus);
                    }
                }
                next.merge(c, stays, Ratio::plus);
            }
            now = next;
        }
        return now;
    }

    public int share(int from, int to, int t) {
        if (!name(from) || !name(to) || t < 0 || t > 3) {
            return BAD;
        }
        if (!cells.containsKey(from) || !cells.containsKey(to)) {
            return found(1);
        }
        ratio = spread(from, t, sides()).getOrDefault(to, Ratio.of(0, 1));
        return 1;
    }

    public int most(int to, int t) {
        if (!name(to) || t < 0 || t > 3) {
            return BAD;
        }
        if (!cells.containsKey(to)) {
            return found(1);
        }
        Map<Integer, Map<Integer, Integer>> sides = sides();
        int best = -1;
        Ratio greatest = null;
        for (int c : cells.keySet()) {
            Ratio here = spread(c, t, sides).getOrDefault(to, Ratio.of(0, 1));
            if (greatest == null || here.compare(greatest) > 0) {
                greatest = here;
                best = c;
            }
        }
        ratio = greatest;
        return best;
    }

    public int off(int c, int t) {
        if (!name(c) || t < 0 || t > 20) {
            return BAD;
        }
        if (!cells.containsKey(c)) {
            return found(1);
        }
        int may = 0;
        for (int to : sides().get(c).keySet()) {
            boolean flowsMayBe = to < 0 ? open == 1 : cells.get(to).kind != 4;
            may += flowsMayBe && cells.get(c).kind != 4 ? 1 : 0;
        }
        return t * may;
    }

    public int asked() {
        return asked;
    }

    public long upper() {
        return ratio.above.longValueExact();
    }

    public long lower() {
        return ratio.below.longValueExact();
    }

    private int ofKind(int kind) {
        return (int) cells.values().stream().filter(c -> c.kind == kind).count();
    }

    public int count(int what) {
        int spares = (int) Arrays.stream(kinds).filter(k -> k == 4).count();
        int states = (kept[0] == null ? 0 : 1) + (kept[1] == null ? 0 : 1);
        int[] all = {ticks, cells.size(), ofKind(1) + ofKind(2), ofKind(4), ofKind(3), spares, states,
            rows.size(), texts.size()};
        return what < 0 || what > 8 ? BAD : all[what];
    }

    public int finding() {
        return finding;
    }

    public int findings(int f) {
        return f < 1 || f > 5 ? BAD : findings[f];
    }

    public long digest() {
        List<Long> all = new ArrayList<>();
        for (int what = 0; what <= 8; what++) {
            all.add((long) count(what));
        }
        for (Map.Entry<Integer, Cell> e : cells.entrySet()) {
            Cell cell = e.getValue();
            all.addAll(List.of((long) e.getKey(), (long) cell.kind, (long) cell.amount, (long) cell.machine));
        }
        for (int kind : kinds) {
            all.add((long) kind);
        }
        all.addAll(List.of((long) n, (long) m, (long) open, (long) partMark, (long) joinMark, left, putIn));
        for (int r = 0; r < 6; r++) {
            int[] row = rows.get(r);
            all.add(row == null ? -1L : row.length);
            for (int i = 0; row != null && i < row.length; i++) {
                all.add((long) row[i]);
            }
        }
        for (int t = 0; t < 4; t++) {
            byte[] text = texts.get(t);
            all.add(text == null ? -1L : text.length);
            for (int i = 0; text != null && i < text.length; i++) {
                all.add((long) text[i]);
            }
        }
        long h = 17;
        for (long v : all) {
            h = 31 * h + v;
        }
        return h;
    }
}
