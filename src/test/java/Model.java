import java.util.ArrayDeque;
import java.util.ArrayList;
import java.util.Arrays;
import java.util.HashMap;
import java.util.HashSet;
import java.util.List;
import java.util.Map;
import java.util.Set;
import java.util.function.IntBinaryOperator;
import java.util.regex.Matcher;
import java.util.regex.Pattern;

/**
 * The document once more, told in another way: beat by beat, CUT by CUT, with the Java library and with
 * what the Java machine itself throws. It is slow and plain, and is compared with BankStore in ModelTest.
 */
final class Model {
    private static final int BAD = -1, STATE = -2, FULL = -3, NONE = -4, SPENT = -6;

    private record Cell(int i, int j) { }

    private record Wish(int kind, int n, int m) { }

    private record Line(String name, int row, int second, int third) { }

    private record Rate(int asks, int beats, int rounds) { }

    private static final class Fault extends RuntimeException {
        private static final long serialVersionUID = 1;
        final int sort;
        final int place;

        Fault(int sort, int place) {
            this.sort = sort;
            this.place = place;
        }
    }

    private int h = 8, w = 8, m = 8, sort = 0, a = 0, b = 1, rest = 4, fault = 0;
    private int[][] told = new int[8][8];
    private final List<Wish> wishes = new ArrayList<>();
    private StringBuilder tape = new StringBuilder();
    private List<Line> lines = new ArrayList<>();
    private final Object[] sheets = new Object[4];

    // ---- the table

    int table(int newH, int newW) {
        if (newH < 1 || newH > 16 || newW < 1 || newW > 16) {
            return BAD;
        }
        h = newH;
        w = newW;
        told = new int[h][w];
        return 1;
    }

    int banks(int newM) {
        if (newM < 1 || newM > 17) {
            return BAD;
        }
        int was = m;
        m = newM;
        told = new int[h][w];
        return was;
    }

    int law(int newSort, int newA, int newB) {
        boolean factors = newA >= 0 && newA <= 16 && newB >= 0 && newB <= 16;
        if (newSort < 0 || newSort > 2 || newSort != 2 && !factors) {
            return BAD;
        }
        int was = sort;
        sort = newSort;
        a = newSort == 2 ? a : newA;
        b = newSort == 2 ? b : newB;
        return was;
    }

    private boolean in(int i, int j) {
        return i >= 0 && i < h && j >= 0 && j < w;
    }

    private static IntBinaryOperator lawOf(int sort, int a, int b, int m) {
        return sort == 0 ? (i, j) -> (a * i + b * j) % m : (i, j) -> (a * i ^ b * j) % m;
    }

    private IntBinaryOperator theLaw() {
        return sort == 2 ? (i, j) -> told[i][j] : lawOf(sort, a, b, m);
    }

    int lay(int i, int j, int v) {
        if (!in(i, j) || v < 0 || v >= m) {
            return BAD;
        }
        int was = told[i][j];
        told[i][j] = v;
        return was;
    }

    private List<Cell> cellsOf(int v) {
        List<Cell> cells = new ArrayList<>();
        for (int i = 0; i < h; i++) {
            for (int j = 0; j < w; j++) {
                if (theLaw().applyAsInt(i, j) == v) {
                    cells.add(new Cell(i, j));
                }
            }
        }
        return cells;
    }

    int cell(int i, int j, int what) {
        if (!in(i, j) || what < 0 || what > 2) {
            return BAD;
        }
        int v = theLaw().applyAsInt(i, j);
        return what == 0 ? v : what == 2 ? told[i][j] : cellsOf(v).indexOf(new Cell(i, j));
    }

    int bank(int v, int what) {
        if (v < 0 || v >= m || what < 0 || what > 2) {
            return BAD;
        }
        List<Cell> cells = cellsOf(v);
        if (what == 0) {
            return cells.size();
        }
        if (cells.isEmpty()) {
            return NONE;
        }
        Cell at = cells.get(what == 1 ? 0 : cells.size() - 1);
        return at.i * 16 + at.j;
    }

    // ---- cuts, wishes

    private static boolean wrongShape(int kind, int n, int m) {
        return kind < 0 || kind > 4 || n < 1 || n > 16 || m < 1 || m > 8;
    }

    /** The CELLS of a CUT; null: it is not somewhere there. */
    private List<Cell> cutAt(Wish s, long i, long j) {
        List<long[]> cells = new ArrayList<>();
        if (s.kind == 4) {
            for (int r = 0; r < s.n; r++) {
                for (int k = 0; k < s.m; k++) {
                    cells.add(new long[] {i + r, j + k});
                }
            }
        } else {
            int[][] ways = {{0, 1}, {1, 0}, {1, 1}, {1, -1}};
            for (int k = 0; k < s.n; k++) {
                cells.add(new long[] {i + (long) k * s.m * ways[s.kind][0], j + (long) k * s.m * ways[s.kind][1]});
            }
        }
        List<Cell> all = new ArrayList<>();
        for (long[] at : cells) {
            if (at[0] < 0 || at[0] >= h || at[1] < 0 || at[1] >= w) {
                return null;
            }
            all.add(new Cell((int) at[0], (int) at[1]));
        }
        return all;
    }

    private List<List<Cell>> allCuts(Wish s) {
        List<List<Cell>> all = new ArrayList<>();
        for (int i = 0; i < h; i++) {
            for (int j = 0; j < w; j++) {
                List<Cell> cells = cutAt(s, i, j);
                if (cells != null) {
                    all.add(cells);
                }
            }
        }
        return all;
    }

    private static int beats(List<Cell> cells, IntBinaryOperator law) {
        Map<Integer, Integer> times = new HashMap<>();
        for (Cell at : cells) {
            times.merge(law.applyAsInt(at.i, at.j), 1, Integer::sum);
        }
        return times.values().stream().mapToInt(Integer::intValue).max().orElse(0);
    }

    int cut(int kind, int n, int apart, int i, int j) {
        if (wrongShape(kind, n, apart)) {
            return BAD;
        }
        List<Cell> cells = cutAt(new Wish(kind, n, apart), i, j);
        return cells == null ? BAD : beats(cells, theLaw());
    }

    int cuts(int kind, int n, int apart, int what) {
        if (wrongShape(kind, n, apart) || what < 0 || what > 4) {
            return BAD;
        }
        List<List<Cell>> all = allCuts(new Wish(kind, n, apart));
        int[] beats = all.stream().mapToInt(cells -> beats(cells, theLaw())).toArray();
        int most = Arrays.stream(beats).max().orElse(0);
        switch (what) {
            case 0: return all.size();
            case 1: return (int) Arrays.stream(beats).filter(x -> x == 1).count();
            case 2: return most;
            case 3: return Arrays.stream(beats).sum();
            default:
                for (int k = 0; k < beats.length; k++) {
                    if (beats[k] == most) {
                        return all.get(k).get(0).i * 16 + all.get(k).get(0).j;
                    }
                }
                return NONE;
        }
    }

    int wish(int kind, int n, int apart) {
        if (wrongShape(kind, n, apart)) {
            return BAD;
        }
        if (wishes.size() == 6) {
            return FULL;
        }
        wishes.add(new Wish(kind, n, apart));
        return wishes.size() - 1;
    }

    int forget() {
        int was = wishes.size();
        wishes.clear();
        return was;
    }

    private boolean grants(IntBinaryOperator law, Wish s) {
        return allCuts(s).stream().allMatch(cells -> beats(cells, law) == 1);
    }

    int granted() {
        int bits = 0;
        for (int k = 0; k < wishes.size(); k++) {
            bits += grants(theLaw(), wishes.get(k)) ? 1 << k : 0;
        }
        return bits;
    }

    int fewest(int kind, int what) {
        if (kind < 0 || kind > 1 || what < 0 || what > 3) {
            return BAD;
        }
        for (int banks = 1; banks <= 17; banks++) {
            List<int[]> fine = new ArrayList<>();
            for (int x = 0; x < banks; x++) {
                for (int y = 0; y < banks; y++) {
                    IntBinaryOperator law = lawOf(kind, x, y, banks);
                    if (wishes.stream().allMatch(s -> grants(law, s))) {
                        fine.add(new int[] {x, y});
                    }
                }
            }
            if (!fine.isEmpty()) {
                return new int[] {banks, fine.size(), fine.get(0)[0], fine.get(0)[1]}[what];
            }
        }
        return NONE;
    }

    int bound() {
        return wishes.stream().flatMap(s -> allCuts(s).stream()).mapToInt(List::size).max().orElse(1);
    }

    private int tries;

    /** True: laid; false: there is none from here on; tries is 20000 and more when it was SPENT. */
    private boolean layFrom(int at, int greatest, int banks, int[] laid, List<Set<Integer>> with) {
        if (at == laid.length) {
            return true;
        }
        for (int v = 0; v < banks && v <= greatest + 1; v++) {
            if (tries == 20000) {
                return false;
            }
            tries++;
            boolean clash = false;
            for (int other : with.get(at)) {
                clash |= other < at && laid[other] == v;
            }
            laid[at] = v;
            if (!clash && layFrom(at + 1, Math.max(greatest, v), banks, laid, with)) {
                return true;
            }
        }
        return false;
    }

    private int freeWith(int banks, int[] laid) {
        List<Set<Integer>> with = new ArrayList<>();
        for (int k = 0; k < h * w; k++) {
            with.add(new HashSet<>());
        }
        for (Wish s : wishes) {
            for (List<Cell> cells : allCuts(s)) {
                for (Cell x : cells) {
                    for (Cell y : cells) {
                        if (!x.equals(y)) {
                            with.get(x.i * w + x.j).add(y.i * w + y.j);
                        }
                    }
                }
            }
        }
        tries = 0;
        if (layFrom(0, -1, banks, laid, with)) {
            return tries;
        }
        return tries == 20000 ? SPENT : NONE;
    }

    int free() {
        if (h * w > 64) {
            return STATE;
        }
        int[] laid = new int[h * w];
        int answer = freeWith(m, laid);
        for (int k = 0; k < h * w && answer > 0; k++) {
            told[k / w][k % w] = laid[k];
        }
        return answer;
    }

    int freeBanks() {
        if (h * w > 64) {
            return STATE;
        }
        for (int banks = 1; banks <= 17; banks++) {
            int answer = freeWith(banks, new int[h * w]);
            if (answer != NONE) {
                return answer == SPENT ? SPENT : banks;
            }
        }
        return NONE;
    }

    // ---- streams

    int rest(int r) {
        if (r < 1 || r > 12) {
            return BAD;
        }
        int was = rest;
        rest = r;
        return was;
    }

    private static boolean wrongStream(int from, int s) {
        return from < 0 || from > 999 || s < 1 || s > 99;
    }

    private int bankOf(int address, IntBinaryOperator law) {
        int at = address % (h * w);
        return law.applyAsInt(at / w, at % w);
    }

    /** Beat by beat: which ask goes in which. */
    private List<Integer> beatsInOrder(int from, int s, int n) {
        int[] asked = new int[17];
        Arrays.fill(asked, -1000);
        List<Integer> beats = new ArrayList<>();
        for (int t = 0; beats.size() < n; t++) {
            int v = bankOf(from + beats.size() * s, theLaw());
            if (t - asked[v] >= rest) {
                asked[v] = t;
                beats.add(t);
            }
        }
        return beats;
    }

    int inOrder(int from, int s, int n) {
        if (wrongStream(from, s) || n < 1 || n > 200) {
            return BAD;
        }
        return beatsInOrder(from, s, n).get(n - 1) + rest;
    }

    int beat(int from, int s, int k) {
        if (wrongStream(from, s) || k < 0 || k > 199) {
            return BAD;
        }
        return beatsInOrder(from, s, k + 1).get(k);
    }

    int queued(int from, int s, int n, int q, int what) {
        if (wrongStream(from, s) || n < 1 || n > 200 || q < 1 || q > 8 || what < 0 || what > 2) {
            return BAD;
        }
        List<ArrayDeque<Integer>> queues = new ArrayList<>();
        int[] asked = new int[m];
        for (int v = 0; v < m; v++) {
            queues.add(new ArrayDeque<>());
            asked[v] = -1000;
        }
        ArrayDeque<Integer> stream = new ArrayDeque<>();
        for (int k = 0; k < n; k++) {
            stream.add(bankOf(from + k * s, theLaw()));
        }
        int waited = 0;
        int most = 0;
        int last = 0;
        for (int t = 0; !stream.isEmpty() || queues.stream().anyMatch(x -> !x.isEmpty()); t++) {
            for (int v = 0; v < m; v++) {
                if (t - asked[v] >= rest && queues.get(v).poll() != null) {
                    asked[v] = t;
                    last = t;
                }
            }
            if (!stream.isEmpty() && queues.get(stream.peek()).size() < q) {
                ArrayDeque<Integer> queue = queues.get(stream.peek());
                queue.add(stream.poll());
                most = Math.max(most, queue.size());
            } else if (!stream.isEmpty()) {
                waited++;
            }
        }
        return what == 0 ? last + rest : what == 1 ? waited : most;
    }

    private Rate rateOf(int from, int s) {
        int asks = 1;
        while ((long) asks * s % (h * w) != 0) {
            asks++;
        }
        Map<String, Integer> rounds = new HashMap<>();
        List<Integer> ends = new ArrayList<>();
        int[] left = new int[m];
        int t = 0;
        for (int r = 1; r <= 64; r++) {
            for (int k = 0; k < asks;) {
                int v = bankOf(from + k * s, theLaw());
                if (left[v] == 0) {
                    left[v] = rest;
                    k++;
                }
                for (int x = 0; x < m; x++) {
                    left[x] = Math.max(0, left[x] - 1);
                }
                t++;
            }
            ends.add(t);
            Integer same = rounds.putIfAbsent(Arrays.toString(left), r);
            if (same != null) {
                int up = (r - same) * asks;
                int down = t - ends.get(same - 1);
                for (int d = up; d > 1; d--) {
                    if (up % d == 0 && down % d == 0) {
                        return new Rate(up / d, down / d, r);
                    }
                }
                return new Rate(up, down, r);
            }
        }
        return null;
    }

    int rate(int from, int s, int what) {
        if (wrongStream(from, s) || what < 0 || what > 2) {
            return BAD;
        }
        Rate r = rateOf(from, s);
        return r == null ? SPENT : what == 0 ? r.asks : what == 1 ? r.beats : r.rounds;
    }

    int steps(int what) {
        if (what < 0 || what > 1) {
            return BAD;
        }
        int full = 0;
        int least = 1;
        List<Rate> all = new ArrayList<>();
        for (int s = 1; s < 100; s++) {
            Rate r = rateOf(0, s);
            if (r == null) {
                return SPENT;
            }
            all.add(r);
            full += r.asks == r.beats ? 1 : 0;
            Rate worst = all.get(least - 1);
            least = r.asks * worst.beats < worst.asks * r.beats ? s : least;
        }
        return what == 0 ? full : least;
    }

    // ---- programs

    int feed(long v) {
        if (tape.length() + 8 > 240) {
            return FULL;
        }
        for (int shift = 56; shift >= 0; shift -= 8) {
            tape.append((char) (v >> shift & 255));
        }
        return tape.length();
    }

    int end(int n) {
        if (n < 0 || n > tape.length()) {
            return BAD;
        }
        int had = tape.length();
        tape.setLength(n);
        return had;
    }

    private static final Pattern TOKEN = Pattern.compile("\\G *([a-z]+|[0-9]+|;|$|.)", Pattern.DOTALL);

    private static String token(Matcher text) {
        if (!text.find()) {
            throw new IllegalStateException();
        }
        if (!text.group(1).matches("[a-z]+|[0-9]{1,4}|;|")) {
            throw new Fault(1, text.start(1));
        }
        return text.group(1);
    }

    private static int row(Matcher text, Set<Integer> made) {
        String name = token(text);
        if (!name.matches("[a-h]")) {
            throw new Fault(2, text.start(1));
        }
        int row = name.charAt(0) - 'a';
        if (made != null && !made.contains(row)) {
            throw new Fault(4, text.start(1));
        }
        return row;
    }

    private static int number(Matcher text, int least, int most) {
        String figures = token(text);
        if (!figures.matches("[0-9]+")) {
            throw new Fault(2, text.start(1));
        }
        int v = Integer.parseInt(figures);
        if (v < least || v > most) {
            throw new Fault(3, text.start(1));
        }
        return v;
    }

    private static List<Line> parse(String tape) {
        List<Line> read = new ArrayList<>();
        Set<Integer> made = new HashSet<>();
        Matcher text = TOKEN.matcher(tape);
        for (String name = token(text); !name.isEmpty(); name = token(text)) {
            if (!name.matches("load|store|add|mul")) {
                throw new Fault(2, text.start(1));
            }
            if (read.size() == 16) {
                throw new Fault(5, text.start(1));
            }
            boolean making = name.equals("add") || name.equals("mul");
            int row = row(text, name.equals("store") ? made : null);
            int second = making ? row(text, made) : number(text, 0, 999);
            int third = making ? row(text, made) : number(text, 1, 99);
            if (!token(text).equals(";")) {
                throw new Fault(2, text.start(1));
            }
            read.add(new Line(name, row, second, third));
            if (!name.equals("store")) {
                made.add(row);
            }
        }
        return read;
    }

    int program() {
        String text = tape.toString();
        tape = new StringBuilder();
        try {
            lines = parse(text);
            fault = 0;
            return lines.size();
        } catch (Fault f) {
            fault = f.sort;
            return -10 - f.place;
        }
    }

    int fault() {
        return fault;
    }

    int line(int k, int what) {
        if (k < 0 || k >= lines.size() || what < 0 || what > 3) {
            return BAD;
        }
        Line x = lines.get(k);
        int kind = List.of("load", "store", "add", "mul").indexOf(x.name);
        return new int[] {kind, x.row, x.second, x.third}[what];
    }

    private static int unitOf(Line x) {
        return x.name.equals("add") ? 1 : x.name.equals("mul") ? 2 : 0;
    }

    private int delayOf(Line x) {
        return x.name.equals("add") ? 3 : x.name.equals("mul") ? 5 : rest;
    }

    private List<Integer> sourcesOf(int k) {
        Line x = lines.get(k);
        List<Integer> rows = x.name.equals("load") ? List.of()
                : x.name.equals("store") ? List.of(x.row) : List.of(x.second, x.third);
        List<Integer> sources = new ArrayList<>();
        for (int row : rows) {
            for (int j = k - 1; j >= 0; j--) {
                if (lines.get(j).row == row && !lines.get(j).name.equals("store")) {
                    sources.add(j);
                    break;
                }
            }
        }
        return sources;
    }

    /** Beat by beat: each unit looks whether its next element can go. */
    private int[][] goes(int l, boolean linked, IntBinaryOperator law) {
        int[][] goes = new int[lines.size()][l];
        for (int[] row : goes) {
            Arrays.fill(row, -1);
        }
        int[] asked = new int[17];
        Arrays.fill(asked, -1000);
        int left = lines.size() * l;
        for (int t = 0; left > 0; t++) {
            for (int unit = 0; unit < 3; unit++) {
                int next = -1;
                for (int k = 0; k < lines.size() && next < 0; k++) {
                    next = unitOf(lines.get(k)) == unit && goes[k][l - 1] < 0 ? k : -1;
                }
                if (next >= 0 && goesNow(next, l, linked, t, goes, asked, law)) {
                    left--;
                }
            }
        }
        return goes;
    }

    private boolean goesNow(int k, int l, boolean linked, int t, int[][] goes, int[] asked, IntBinaryOperator law) {
        int e = 0;
        while (goes[k][e] >= 0) {
            e++;
        }
        for (int source : sourcesOf(k)) {
            for (int x = 0; x < l; x++) {
                boolean there = goes[source][x] >= 0 && goes[source][x] + delayOf(lines.get(source)) <= t;
                if (!there && (!linked || x == e)) {
                    return false;
                }
            }
        }
        Line line = lines.get(k);
        if (unitOf(line) == 0) {
            int v = bankOf(line.second + e * line.third, law);
            if (t - asked[v] < rest) {
                return false;
            }
            asked[v] = t;
        }
        goes[k][e] = t;
        return true;
    }

    private int endOf(int l, boolean linked, IntBinaryOperator law) {
        int[][] goes = goes(l, linked, law);
        int latest = 0;
        for (int k = 0; k < goes.length; k++) {
            latest = Math.max(latest, goes[k][l - 1] + delayOf(lines.get(k)));
        }
        return latest;
    }

    int time(int l, boolean linked, int k) {
        if (l < 1 || l > 64 || k != NONE && (k < 0 || k >= lines.size())) {
            return BAD;
        }
        return k == NONE ? endOf(l, linked, theLaw()) : goes(l, linked, theLaw())[k][l - 1] + delayOf(lines.get(k));
    }

    int when(int l, boolean linked, int k, int e, int what) {
        if (l < 1 || l > 64 || k < 0 || k >= lines.size() || e < 0 || e >= l || what < 0 || what > 1) {
            return BAD;
        }
        return goes(l, linked, theLaw())[k][e] + (what == 0 ? 0 : delayOf(lines.get(k)));
    }

    int used(int l, boolean linked, int unit, int what) {
        if (l < 1 || l > 64 || unit < 0 || unit > 2 || what < 0 || what > 1) {
            return BAD;
        }
        if (what == 1) {
            return endOf(l, linked, theLaw());
        }
        Set<Integer> beats = new HashSet<>();
        int[][] goes = goes(l, linked, theLaw());
        for (int k = 0; k < goes.length; k++) {
            if (unitOf(lines.get(k)) == unit) {
                Arrays.stream(goes[k]).forEach(beats::add);
            }
        }
        return beats.size();
    }

    int tuned(int l, boolean linked, int what) {
        if (l < 1 || l > 64 || what < 0 || what > 2) {
            return BAD;
        }
        int[] best = null;
        for (int x = 0; x < m; x++) {
            for (int y = 0; y < m; y++) {
                int ends = endOf(l, linked, lawOf(0, x, y, m));
                if (best == null || ends < best[2]) {
                    best = new int[] {x, y, ends};
                }
            }
        }
        return best[what];
    }

    // ---- sheets

    int sheet(int k, int lane, int n) {
        if (k < 0 || k > 3 || lane < 0 || lane > 2 || n > 256) {
            return BAD;
        }
        try {
            sheets[k] = lane == 0 ? new byte[n] : lane == 1 ? new short[n] : new int[n];
            return 1;
        } catch (NegativeArraySizeException e) {
            return -14;
        }
    }

    int write(int k, int i, int v) {
        if (k < 0 || k > 3) {
            return BAD;
        }
        try {
            if (sheets[k] instanceof byte[] x) {
                x[i] = (byte) v;
            } else if (sheets[k] instanceof short[] x) {
                x[i] = (short) v;
            } else {
                ((int[]) sheets[k])[i] = v;
            }
            return 1;
        } catch (NullPointerException e) {
            return -11;
        } catch (ArrayIndexOutOfBoundsException e) {
            return -12;
        }
    }

    int read(int k, int lane, int f) {
        if (k < 0 || k > 3 || lane < 0 || lane > 2) {
            return BAD;
        }
        int[][] anew = new int[h][w];
        int others = 0;
        try {
            for (int x = 0; x < h * w; x++) {
                int v = lane == 0 ? ((byte[]) sheets[k])[f + x]
                        : lane == 1 ? ((short[]) sheets[k])[f + x] : ((int[]) sheets[k])[f + x];
                if (v < 0 || v >= m) {
                    return -1000 - x;
                }
                others += v != told[x / w][x % w] ? 1 : 0;
                anew[x / w][x % w] = v;
            }
        } catch (NullPointerException e) {
            return -11;
        } catch (ArrayIndexOutOfBoundsException e) {
            return -12;
        } catch (ClassCastException e) {
            return -13;
        }
        told = anew;
        return others;
    }

    int count(int what) {
        Object x = sheets[0];
        int size = x instanceof byte[] y ? y.length : x instanceof short[] y ? y.length
                : x instanceof int[] y ? y.length : NONE;
        int[] all = {h, w, m, sort, a, b, wishes.size(), rest, lines.size(), tape.length(), size};
        return what < 0 || what >= all.length ? BAD : all[what];
    }
}
