import java.util.Random;

/** Random runs of calls, the same for BankStore and for the Model: all promises, and that refused calls change nothing. */
public final class ModelTest {
    private static final Check c = new Check();
    private static final int RUNS = 400, CALLS = 120;

    private final Random random;
    private final BankStore x = new BankStore();
    private final Model y = new Model();
    private final StringBuilder run = new StringBuilder();
    private final boolean small;

    private ModelTest(long seed) {
        random = new Random(seed);
        small = random.nextInt(3) > 0;
        run.append("seed ").append(seed).append(':');
    }

    public static void main(String[] args) {
        int runs = args.length > 0 ? Integer.parseInt(args[0]) : RUNS;
        int first = args.length > 1 ? Integer.parseInt(args[1]) : 0;
        for (int seed = first; seed < first + runs; seed++) {
            ModelTest test = new ModelTest(seed);
            for (int k = 0; k < CALLS; k++) {
                test.call();
            }
        }
        c.finish();
    }

    private void same(String call, long got, long want) {
        run.append(' ').append(call);
        c.due(run.length() > 3000 ? run.substring(0, 20) + " .. " + call : run.toString(), got, want);
    }

    /** Mostly as told, at times just beside it or far off. */
    private int of(int least, int most) {
        int dice = random.nextInt(60);
        if (dice == 0) {
            return least - 1;
        }
        if (dice == 1) {
            return most + 1;
        }
        if (dice == 2) {
            return random.nextInt();
        }
        return dice < 6 ? least : dice < 9 ? most : least + random.nextInt(most - least + 1);
    }

    private void call() {
        switch (random.nextInt(5)) {
            case 0: tableCall(); break;
            case 1: cutCall(); break;
            case 2: streamCall(); break;
            case 3: programCall(); break;
            default: sheetCall(); break;
        }
    }

    private void tableCall() {
        int i = of(0, y.count(0) - 1);
        int j = of(0, y.count(1) - 1);
        int what = of(0, 2);
        switch (random.nextInt(9)) {
            case 0: {
                int h = of(1, small ? 6 : 16);
                int w = of(1, small ? 6 : 16);
                same("table(" + h + "," + w + ")", x.table(h, w), y.table(h, w));
                break;
            }
            case 1: {
                int m = of(1, 17);
                same("banks(" + m + ")", x.banks(m), y.banks(m));
                break;
            }
            case 2:
            case 3: {
                int a = of(0, 16);
                int b = of(0, 16);
                same("law(" + what + "," + a + "," + b + ")", x.law(what, a, b), y.law(what, a, b));
                break;
            }
            case 4:
            case 5: {
                int v = of(0, y.count(2) - 1);
                same("lay(" + i + "," + j + "," + v + ")", x.lay(i, j, v), y.lay(i, j, v));
                break;
            }
            case 6: {
                int v = of(0, y.count(2) - 1);
                same("bank(" + v + "," + what + ")", x.bank(v, what), y.bank(v, what));
                break;
            }
            case 7:
                same("cell(" + i + "," + j + "," + what + ")", x.cell(i, j, what), y.cell(i, j, what));
                break;
            default: {
                int k = of(0, 10);
                same("count(" + k + ")", x.count(k), y.count(k));
                break;
            }
        }
    }

    private void cutCall() {
        int kind = of(0, 4);
        int n = random.nextInt(4) == 0 ? of(1, 16) : of(1, 4);
        int m = random.nextInt(4) == 0 ? of(1, 8) : of(1, 3);
        switch (random.nextInt(11)) {
            case 0:
            case 1: {
                int i = of(0, y.count(0) - 1);
                int j = of(0, y.count(1) - 1);
                same("cut(" + kind + "," + n + "," + m + "," + i + "," + j + ")",
                        x.cut(kind, n, m, i, j), y.cut(kind, n, m, i, j));
                break;
            }
            case 2:
            case 3: {
                int what = of(0, 4);
                same("cuts(" + kind + "," + n + "," + m + "," + what + ")",
                        x.cuts(kind, n, m, what), y.cuts(kind, n, m, what));
                break;
            }
            case 4:
            case 5:
                same("wish(" + kind + "," + n + "," + m + ")", x.wish(kind, n, m), y.wish(kind, n, m));
                break;
            case 6:
                if (random.nextInt(3) == 0) {
                    same("forget()", x.forget(), y.forget());
                }
                break;
            case 7: same("granted()", x.granted(), y.granted()); break;
            case 8: same("bound()", x.bound(), y.bound()); break;
            case 9: same("free()", x.free(), y.free()); break;
            default: searchCall(); break;
        }
    }

    /** The Model takes long for these on large TABLES. */
    private void searchCall() {
        if (!small) {
            return;
        }
        int sort = of(0, 1);
        int what = of(0, 3);
        if (random.nextBoolean()) {
            same("fewest(" + sort + "," + what + ")", x.fewest(sort, what), y.fewest(sort, what));
        } else {
            same("freeBanks()", x.freeBanks(), y.freeBanks());
        }
    }

    private void streamCall() {
        int from = of(0, 999);
        int s = random.nextBoolean() ? of(1, 12) : of(1, 99);
        int n = of(1, 200);
        int what = of(0, 2);
        switch (random.nextInt(7)) {
            case 0: {
                int r = of(1, 12);
                same("rest(" + r + ")", x.rest(r), y.rest(r));
                break;
            }
            case 1:
                same("inOrder(" + from + "," + s + "," + n + ")", x.inOrder(from, s, n), y.inOrder(from, s, n));
                break;
            case 2:
                same("beat(" + from + "," + s + "," + (n - 1) + ")", x.beat(from, s, n - 1), y.beat(from, s, n - 1));
                break;
            case 3:
            case 4: {
                int q = of(1, 8);
                same("queued(" + from + "," + s + "," + n + "," + q + "," + what + ")",
                        x.queued(from, s, n, q, what), y.queued(from, s, n, q, what));
                break;
            }
            case 5:
                same("rate(" + from + "," + s + "," + what + ")", x.rate(from, s, what), y.rate(from, s, what));
                break;
            default:
                if (small && random.nextInt(3) == 0) {
                    int which = of(0, 1);
                    same("steps(" + which + ")", x.steps(which), y.steps(which));
                }
                break;
        }
    }

    private String word() {
        String[] odd = {"load", "store", "add", "mul", ";", "i", "ab", "1000", "0", "100", "12345", "", ",", "\u00ff", "x9"};
        return odd[random.nextInt(odd.length)];
    }

    private String text() {
        StringBuilder text = new StringBuilder();
        String[] names = {"load", "store", "add", "mul"};
        int lines = random.nextInt(9) == 0 ? 18 : random.nextInt(8);
        for (int k = 0; k < lines; k++) {
            int kind = k == 0 ? 0 : random.nextInt(lines == 18 ? 2 : 4);
            char[] rows = new char[3];
            for (int r = 0; r < 3; r++) {
                rows[r] = (char) ('a' + (random.nextInt(9) == 0 ? random.nextInt(8) : r == 0 ? k % 2 : 0));
            }
            String[] parts = kind < 2
                    ? new String[] {names[kind], "" + rows[kind == 1 ? 1 : 0], "" + random.nextInt(1000),
                            "" + (1 + random.nextInt(99)), ";"}
                    : new String[] {names[kind], "" + rows[0], "" + rows[1], "" + rows[2], ";"};
            for (String part : parts) {
                text.append(random.nextInt(80) == 0 ? word() : part);
                text.append(part.equals(";") || random.nextInt(150) == 0 ? "" : " ");
            }
        }
        return text.toString();
    }

    private void programCall() {
        int l = random.nextInt(4) == 0 ? of(1, 64) : of(1, 12);
        boolean linked = random.nextBoolean();
        int lines = Math.max(1, y.count(8));
        switch (random.nextInt(8)) {
            case 0:
            case 1: tellCall(); break;
            case 2: {
                int k = of(0, lines - 1);
                int what = of(0, 3);
                same("line(" + k + "," + what + ")", x.line(k, what), y.line(k, what));
                break;
            }
            case 3: {
                int k = random.nextBoolean() ? -4 : of(0, lines - 1);
                same("time(" + l + "," + linked + "," + k + ")", x.time(l, linked, k), y.time(l, linked, k));
                break;
            }
            case 4: {
                int k = of(0, lines - 1);
                int e = of(0, Math.max(0, Math.min(l, 64) - 1));
                int what = of(0, 1);
                same("when(" + l + "," + linked + "," + k + "," + e + "," + what + ")",
                        x.when(l, linked, k, e, what), y.when(l, linked, k, e, what));
                break;
            }
            case 5: {
                int unit = of(0, 2);
                int what = of(0, 1);
                same("used(" + l + "," + linked + "," + unit + "," + what + ")",
                        x.used(l, linked, unit, what), y.used(l, linked, unit, what));
                break;
            }
            case 6: {
                int few = of(1, 4);
                int what = of(0, 2);
                if (few <= 4 || few > 64) {
                    same("tuned(" + few + "," + linked + "," + what + ")",
                            x.tuned(few, linked, what), y.tuned(few, linked, what));
                }
                break;
            }
            default: same("fault()", x.fault(), y.fault()); break;
        }
    }

    private void tellCall() {
        String text = text();
        for (int k = 0; k < text.length(); k += 8) {
            long v = Check.eight(text, k);
            same("feed(" + v + ")", x.feed(v), y.feed(v));
        }
        int n = of(0, text.length());
        int keep = random.nextInt(4) == 0 ? n : text.length();
        same("end(" + keep + ")", x.end(keep), y.end(keep));
        same("program()", x.program(), y.program());
        same("fault()", x.fault(), y.fault());
    }

    private void sheetCall() {
        int k = of(0, 3);
        int lane = of(0, 2);
        switch (random.nextInt(6)) {
            case 0: {
                int n = random.nextBoolean() ? of(0, 256) : of(0, 36);
                same("sheet(" + k + "," + lane + "," + n + ")", x.sheet(k, lane, n), y.sheet(k, lane, n));
                break;
            }
            case 1:
            case 2:
            case 3: {
                int i = of(0, 40);
                int v = random.nextInt(5) == 0 ? random.nextInt() : of(0, 16);
                same("write(" + k + "," + i + "," + v + ")", x.write(k, i, v), y.write(k, i, v));
                break;
            }
            default: {
                int f = random.nextInt(3) > 0 ? of(0, 2) : of(0, 256);
                same("read(" + k + "," + lane + "," + f + ")", x.read(k, lane, f), y.read(k, lane, f));
                break;
            }
        }
    }
}
