/** The boundary cases of CUTS, WISHES, laws and FREE LAYINGS, sentence by sentence: Terms, promises 8 to 16. */
public final class CutsEdgesTest {
    private static final Check c = new Check();
    private static final int BAD = BankStore.BAD, STATE = BankStore.STATE, FULL = BankStore.FULL;
    private static final int NONE = BankStore.NONE, SPENT = BankStore.SPENT;

    public static void main(String[] args) {
        rows();
        columns();
        slants();
        otherSlants();
        lengths();
        blocks();
        somewhere();
        beats();
        wishNumbers();
        grants();
        leastBank();
        greatestSoFar();
        goingBack();
        tries();
        spentTries();
        freeCells();
        cut();
        cuts();
        wish();
        forget();
        granted();
        fewest();
        bound();
        free();
        freeBanks();
        c.finish();
    }

    /** A TABLE whose CELLS lie in one BANK all: BEATS of a CUT are then how many CELLS it has. */
    private static BankStore oneBank(int h, int w) {
        BankStore x = new BankStore();
        x.table(h, w);
        x.banks(1);
        return x;
    }

    private static void rows() {
        c.sentence(0, "CUTS: kind 0: n CELLS of a row, m apart: (i, j + k m);");
        BankStore x = oneBank(2, 9);
        c.due("up to the last column", x.cut(0, 9, 1, 1, 0), 9);
        c.due("one column too far", x.cut(0, 9, 1, 1, 1), BAD);
        c.due("8 apart, up to the last column", x.cut(0, 2, 8, 0, 0), 2);
        c.due("8 apart, one too far", x.cut(0, 2, 8, 0, 1), BAD);
        c.due("it does not go on in the next row", x.cut(0, 2, 1, 0, 8), BAD);
        c.due("rows do not count", x.cut(0, 9, 1, 2, 0), BAD);
    }

    private static void columns() {
        c.sentence(0, "1: of a column: (i + k m, j);");
        BankStore x = oneBank(9, 2);
        c.due("down to the last row", x.cut(1, 9, 1, 0, 1), 9);
        c.due("one row too far", x.cut(1, 9, 1, 1, 1), BAD);
        c.due("8 apart, down to the last row", x.cut(1, 2, 8, 0, 0), 2);
        c.due("8 apart, one too far", x.cut(1, 2, 8, 1, 0), BAD);
        c.due("columns do not count", x.cut(1, 9, 1, 0, 2), BAD);
    }

    private static void slants() {
        c.sentence(0, "2: a slant: (i + k m, j + k m);");
        BankStore x = oneBank(9, 10);
        c.due("down to the last row", x.cut(2, 9, 1, 0, 0), 9);
        c.due("down to the last row and column", x.cut(2, 9, 1, 0, 1), 9);
        c.due("one column too far", x.cut(2, 9, 1, 0, 2), BAD);
        c.due("one row too far", x.cut(2, 9, 1, 1, 0), BAD);
        c.due("8 apart", x.cut(2, 2, 8, 0, 1), 2);
        c.due("8 apart, one column too far", x.cut(2, 2, 8, 0, 2), BAD);
        c.due("8 apart, one row too far", x.cut(2, 2, 8, 1, 0), BAD);
    }

    private static void otherSlants() {
        c.sentence(0, "3: the other one: (i + k m, j - k m)");
        BankStore x = oneBank(9, 10);
        c.due("down to the last row, column 1", x.cut(3, 9, 1, 0, 9), 9);
        c.due("down to the last row, column 0", x.cut(3, 9, 1, 0, 8), 9);
        c.due("ahead of column 0", x.cut(3, 9, 1, 0, 7), BAD);
        c.due("one row too far", x.cut(3, 9, 1, 1, 9), BAD);
        c.due("from a column that is not there", x.cut(3, 2, 1, 0, 10), BAD);
        c.due("8 apart", x.cut(3, 2, 8, 0, 8), 2);
        c.due("8 apart, ahead of column 0", x.cut(3, 2, 8, 0, 7), BAD);
        c.due("8 apart, one row too far", x.cut(3, 2, 8, 1, 9), BAD);
    }

    private static void lengths() {
        c.sentence(0, "(k 0 to n - 1; n 1 to 16, m 1 to 8);");
        BankStore x = oneBank(16, 16);
        for (int kind = 0; kind < 4; kind++) {
            int j = kind == 3 ? 15 : 0;
            for (int n = 1; n <= 16; n++) {
                c.due("kind " + kind + ", n " + n, x.cut(kind, n, 1, 0, j), n);
            }
            for (int m = 1; m <= 8; m++) {
                c.due("kind " + kind + ", m " + m, x.cut(kind, 2, m, 0, j), 2);
                c.due("kind " + kind + ", as many as fit, m " + m, x.cut(kind, 15 / m + 1, m, 0, j), 15 / m + 1);
                c.due("kind " + kind + ", one more, m " + m, x.cut(kind, 15 / m + 2, m, 0, j), BAD);
            }
            c.due("kind " + kind + ", one CELL, far apart", x.cut(kind, 1, 8, 15, 15), 1);
            for (int n : Check.outside(1, 16)) {
                c.due("kind " + kind + ", n " + n, x.cut(kind, n, 1, 0, j), BAD);
            }
            for (int m : Check.outside(1, 8)) {
                c.due("kind " + kind + ", one CELL, m " + m, x.cut(kind, 1, m, 0, j), BAD);
            }
        }
    }

    private static void blocks() {
        c.sentence(0, "4: a block of n rows and m columns (1 to 16, 1 to 8), (i, j) its first CELL.");
        BankStore x = oneBank(16, 16);
        c.due("the largest", x.cut(4, 16, 8, 0, 0), 128);
        c.due("the largest, at the last columns", x.cut(4, 16, 8, 0, 8), 128);
        c.due("one column too far", x.cut(4, 16, 8, 0, 9), BAD);
        c.due("one row too far", x.cut(4, 16, 8, 1, 8), BAD);
        c.due("the smallest, in the last CELL", x.cut(4, 1, 1, 15, 15), 1);
        c.due("16 rows and a column", x.cut(4, 16, 1, 0, 15), 16);
        c.due("a row and 8 columns", x.cut(4, 1, 8, 15, 8), 8);
        for (int n : Check.outside(1, 16)) {
            c.due("n " + n, x.cut(4, n, 1, 0, 0), BAD);
        }
        for (int m : Check.outside(1, 8)) {
            c.due("m " + m, x.cut(4, 1, m, 0, 0), BAD);
        }
    }

    private static boolean isSomewhere(int[] shape, int h, int w, int i, int j) {
        int n = shape[1];
        int m = shape[2];
        int down = shape[0] == 0 ? 0 : shape[0] == 4 ? n - 1 : (n - 1) * m;
        int right = shape[0] == 1 ? 0 : shape[0] == 4 ? m - 1 : (n - 1) * m;
        int leftmost = shape[0] == 3 ? j - right : j;
        int rightmost = shape[0] == 3 ? j : j + right;
        return i >= 0 && i + down < h && leftmost >= 0 && rightmost < w;
    }

    private static void somewhere() {
        c.sentence(0, "It is somewhere, if all its CELLS are in THE TABLE.");
        int[][] shapes = {{0, 3, 2}, {1, 3, 2}, {2, 3, 1}, {3, 3, 1}, {4, 3, 2}, {4, 2, 5}, {2, 2, 4}, {3, 2, 3}};
        for (int[] s : shapes) {
            BankStore x = oneBank(5, 6);
            for (int i = -2; i <= 6; i++) {
                for (int j = -2; j <= 7; j++) {
                    boolean fits = isSomewhere(s, 5, 6, i, j);
                    c.due("kind " + s[0] + " n " + s[1] + " m " + s[2] + " at " + i + " " + j,
                            x.cut(s[0], s[1], s[2], i, j), !fits ? BAD : s[0] == 4 ? s[1] * s[2] : s[1]);
                }
            }
            // So far off that a sum would come round to the other end of the numbers.
            for (int far : Check.outside(0, 5)) {
                c.due("kind " + s[0] + " in row " + far, x.cut(s[0], s[1], s[2], far, 3), BAD);
                c.due("kind " + s[0] + " in column " + far, x.cut(s[0], s[1], s[2], 1, far), BAD);
            }
        }
    }

    private static void beats() {
        c.sentence(0, "BEATS of a CUT: the most of its CELLS in one BANK.");
        BankStore x = Check.laid(2, 8, 17, 16, 16, 0, 16, 1, 0, 2, 16, 3, 4, 5, 6, 7, 8, 9, 10);
        c.due("the last BANK has most", x.cut(0, 8, 1, 0, 0), 4);
        c.due("all apart", x.cut(0, 8, 1, 1, 0), 1);
        c.due("one CELL", x.cut(0, 1, 1, 0, 0), 1);
        c.due("the first and the last of it", x.cut(0, 4, 1, 0, 2), 2);
        c.due("three of one, two of another", x.cut(0, 6, 1, 0, 0), 3);
        c.due("all in one", x.cut(0, 2, 1, 0, 0), 2);
        c.due("16 by 8 in one BANK", oneBank(16, 8).cut(4, 16, 8, 0, 0), 128);
    }

    private static void wishNumbers() {
        c.sentence(0, "WISHES (6) are numbered as they come: a kind, n and m.");
        BankStore x = new BankStore();
        for (int k = 0; k < 6; k++) {
            c.due("number", x.wish(0, 1 + k, 1), k);
        }
        c.due("a seventh has no number", x.wish(0, 1, 1), FULL);
        // Law 0 with a 0, b 1 and 3 BANKS: rows of 1, 2 and 3 are granted.
        x.banks(3);
        c.due("the bits are in the order of the numbers", x.granted(), 7);
        BankStore y = new BankStore();
        c.due("the same one twice", y.wish(1, 2, 1) + y.wish(1, 2, 1), 1);
        c.due("the same one twice is two", y.count(6), 2);
    }

    private static void grants() {
        c.sentence(0, "A laying GRANTS one, if all its CUTS (wherever they are) have BEATS 1.");
        BankStore x = Check.laid(3, 3, 3, 0, 1, 2, 0, 1, 2, 0, 1, 2);
        x.wish(0, 3, 1);
        c.due("all", x.granted(), 1);
        x.lay(0, 0, 1);
        c.due("all but the first", x.granted(), 0);
        x.lay(0, 0, 0);
        x.lay(2, 2, 1);
        c.due("all but the last", x.granted(), 0);
        BankStore nowhere = oneBank(15, 15);
        nowhere.wish(0, 16, 1);
        nowhere.wish(1, 16, 1);
        nowhere.wish(2, 3, 8);
        nowhere.wish(3, 3, 8);
        nowhere.wish(4, 16, 1);
        c.due("those that are nowhere have no CUT that clashes", nowhere.granted(), 31);
        nowhere.table(16, 16);
        c.due("rows, columns and blocks are somewhere now", nowhere.granted(), 4 + 8);
    }

    private static void told(String which, BankStore x, int w, int... cells) {
        for (int k = 0; k < cells.length; k++) {
            c.due(which + ", CELL " + k, x.cell(k / w, k % w, 2), cells[k]);
        }
    }

    private static void leastBank() {
        c.sentence(0, "FREE LAYING: row by row each CELL has the least BANK (below M) so that no CUT of any WISH"
                + " has two CELLS that are laid in one BANK,");
        BankStore x = new BankStore();
        x.table(2, 4);
        x.banks(3);
        x.wish(0, 3, 1);
        c.due("rows of three with 3 BANKS", x.free(), 2 * (1 + 2 + 3 + 1));
        told("rows of three", x, 4, 0, 1, 2, 0, 0, 1, 2, 0);
        x.banks(2);
        c.due("with 2 BANKS there is none", x.free(), NONE);
        x.banks(17);
        c.due("more BANKS are not asked", x.free(), 2 * (1 + 2 + 3 + 1));
        x.wish(1, 2, 1);
        x.free();
        told("of any WISH", x, 4, 0, 1, 2, 0, 1, 0, 3, 1);
        x.forget();
        c.due("no WISH: all in BANK 0", x.free(), 8);
        told("no WISH", x, 4, 0, 0, 0, 0, 0, 0, 0, 0);
        x.wish(0, 5, 1);
        c.due("a WISH that is nowhere", x.free(), 8);
    }

    private static void greatestSoFar() {
        c.sentence(0, "and none above one more than the greatest so far;");
        BankStore x = new BankStore();
        x.table(1, 1);
        x.banks(17);
        c.due("the first CELL asks BANK 0 alone", x.free(), 1);
        x.table(3, 6);
        x.wish(4, 3, 6);
        // CELL k may have BANK k at most: 18 CELLS, all apart, are given up soon.
        c.due("18 CELLS, all apart, with 17 BANKS", x.free(), NONE);
        x.table(1, 3);
        x.forget();
        x.wish(0, 3, 1);
        x.banks(2);
        c.due("three CELLS, all apart, with 2 BANKS", x.free(), NONE);
        // 0 | 0 1 | 0 1 2: with 17 BANKS CELL 1 has no greater one than 1 to be asked for.
        x.banks(17);
        c.due("three CELLS, all apart", x.free(), 6);
    }

    private static void goingBack() {
        c.sentence(0, "back where there is none, to the next greater one of the CELL ahead.");
        BankStore x = new BankStore();
        x.table(2, 3);
        x.banks(3);
        x.wish(0, 3, 1);
        x.wish(1, 2, 1);
        // 0 | 0 1 | 0 1 2 / 0 1 | 0 | 0 1 2: none; back: 1 2 | 0.
        c.due("one CELL back", x.free(), 6 + 2 + 1 + 3 + 2 + 1);
        told("one CELL back", x, 3, 0, 1, 2, 1, 2, 0);
        x.banks(2);
        c.due("back ahead of the first CELL: there is none", x.free(), NONE);
    }

    private static void tries() {
        c.sentence(0, "A TRY is each BANK that is asked for a CELL;");
        BankStore x = new BankStore();
        x.table(1, 1);
        x.banks(1);
        c.due("one CELL, one BANK", x.free(), 1);
        x.table(1, 2);
        x.banks(2);
        x.wish(0, 2, 1);
        c.due("two CELLS: those that clash count", x.free(), 1 + 2);
        x.table(8, 8);
        x.banks(8);
        x.forget();
        c.due("64 CELLS that all fit", x.free(), 64);
        x.table(1, 16);
        x.banks(16);
        x.wish(0, 16, 1);
        c.due("16 CELLS, all apart", x.free(), 16 * 17 / 2);
        x.free();
        c.due("each search counts anew", x.free(), 16 * 17 / 2);
    }

    private static void spentTries() {
        c.sentence(0, "SPENT, when 20000 have been and not all CELLS are laid.");
        BankStore all = Layings.takesAllTries();
        c.due("all CELLS are laid by the 20000th", all.free(), 20000);
        all.law(2, 0, 0);
        c.due("they are told", all.granted(), 15);
        BankStore none = Layings.noneJustInTime();
        c.due("there is none, as the 19999th shows", none.free(), NONE);
        BankStore more = Layings.takesOneMore();
        more.lay(5, 4, 2);
        c.due("all but one are", more.free(), SPENT);
        c.due("the last is not told", more.cell(5, 4, 2), 2);
        c.due("the others are not told", more.cell(0, 2, 2), 0);
        c.due("it is SPENT again", more.free(), SPENT);
        more.forget();
        c.due("then it counts anew", more.free(), 30);
    }

    private static void freeCells() {
        c.sentence(0, "(For THE TABLE of 64 CELLS at most.)");
        BankStore x = new BankStore();
        for (int h = 1; h <= 16; h++) {
            for (int w = 1; w <= 16; w++) {
                x = w % 8 == 1 ? new BankStore() : x;
                x.table(h, w);
                c.due(h + " by " + w, x.free(), h * w <= 64 ? h * w : STATE);
                c.due(h + " by " + w + ", any BANKS", x.freeBanks(), h * w <= 64 ? 1 : STATE);
            }
        }
    }

    private static void cut() {
        c.sentence(8, "BEATS of a CUT at (i, j). BAD: also it is not somewhere there.");
        BankStore x = new BankStore();
        x.table(4, 5);
        for (int kind = 0; kind < 5; kind++) {
            c.due("kind " + kind + ", not there", x.cut(kind, 6, 6, 0, 0), BAD);
            c.due("kind " + kind + ", one CELL", x.cut(kind, 1, 1, 3, 4), 1);
            c.due("kind " + kind + ", no such row", x.cut(kind, 1, 1, 4, 4), BAD);
            c.due("kind " + kind + ", no such column", x.cut(kind, 1, 1, 3, 5), BAD);
            c.due("kind " + kind + ", ahead of row 0", x.cut(kind, 1, 1, -1, 0), BAD);
            c.due("kind " + kind + ", ahead of column 0", x.cut(kind, 1, 1, 0, -1), BAD);
        }
        for (int kind : Check.outside(0, 4)) {
            c.due("kind " + kind, x.cut(kind, 1, 1, 0, 0), BAD);
        }
    }

    private static void cuts() {
        c.sentence(9, "Of all CUTS: 0 how many there are, 1 those of BEATS 1, 2 the most BEATS (0: none), 3 all"
                + " BEATS, summed, 4 the first (row times 16 and column) of the most BEATS (NONE). BAD.");
        int[][] nowhere = {{0, 6, 1}, {0, 2, 5}, {1, 5, 1}, {1, 2, 4}, {2, 5, 1}, {3, 5, 1}, {4, 5, 1}, {4, 1, 6}};
        BankStore x = oneBank(4, 5);
        for (int[] s : nowhere) {
            for (int what = 0; what < 5; what++) {
                c.due("none of kind " + s[0] + ", what " + what, x.cuts(s[0], s[1], s[2], what), what == 4 ? NONE : 0);
            }
        }
        int[][] once = {{0, 5, 1, 4}, {1, 4, 1, 5}, {2, 4, 1, 2}, {3, 4, 1, 2}, {4, 4, 5, 1}};
        for (int[] s : once) {
            int cells = s[0] == 4 ? 20 : s[1];
            int[] due = {s[3], 0, cells, cells * s[3], s[0] == 3 ? 3 : 0};
            for (int what = 0; what < 5; what++) {
                c.due("just fits, kind " + s[0] + ", what " + what, x.cuts(s[0], s[1], s[2], what), due[what]);
            }
        }
        BankStore last = new BankStore();
        last.table(16, 16);
        last.law(2, 0, 0);
        for (int k = 0; k < 255; k++) {
            last.lay(k / 16, k % 16, k % 2);
        }
        c.due("the first of the most is the last of all", last.cuts(0, 2, 1, 4), 15 * 16 + 14);
        c.due("all there can be", oneBank(16, 16).cuts(4, 1, 1, 0), 256);
        c.due("all there can be, of BEATS 1", oneBank(16, 16).cuts(4, 1, 1, 1), 256);
        c.due("all summed, the largest", oneBank(16, 16).cuts(4, 8, 8, 3), 81 * 64);
        for (int v : Check.outside(0, 4)) {
            c.due("what " + v, x.cuts(0, 1, 1, v), BAD);
            c.due("what " + v + " of none", x.cuts(0, 16, 1, v), BAD);
            c.due("kind " + v, x.cuts(v, 1, 1, 0), BAD);
        }
        for (int kind = 0; kind < 5; kind++) {
            for (int n : Check.outside(1, 16)) {
                c.due("kind " + kind + ", n " + n, x.cuts(kind, n, 1, 0), BAD);
            }
            for (int m : Check.outside(1, 8)) {
                c.due("kind " + kind + ", m " + m, x.cuts(kind, 1, m, 4), BAD);
            }
        }
    }

    private static void wish() {
        c.sentence(10, "A WISH: its number. BAD; FULL.");
        BankStore x = new BankStore();
        for (int full = 0; full < 2; full++) {
            for (int v : Check.outside(0, 4)) {
                c.due("kind " + v, x.wish(v, 1, 1), BAD);
            }
            for (int kind = 0; kind < 5; kind++) {
                for (int n : Check.outside(1, 16)) {
                    c.due("kind " + kind + ", n " + n, x.wish(kind, n, 1), BAD);
                }
                for (int m : Check.outside(1, 8)) {
                    c.due("kind " + kind + ", m " + m, x.wish(kind, 1, m), BAD);
                }
            }
            c.due("none of those came", x.count(6), 6 * full);
            for (int k = 0; k < 6; k++) {
                c.due("WISH " + k, x.wish(k % 5, k < 3 ? 1 : 16, k % 2 == 0 ? 1 : 8), full == 0 ? k : FULL);
            }
        }
        c.due("six", x.count(6), 6);
    }

    private static void forget() {
        c.sentence(11, "All WISHES go: how many.");
        BankStore x = new BankStore();
        c.due("none", x.forget(), 0);
        for (int n = 1; n <= 6; n++) {
            for (int k = 0; k < n; k++) {
                c.due("numbers from 0 on", x.wish(0, 8, 1), k);
            }
            c.due("all " + n, x.forget(), n);
            c.due("none is left", x.count(6), 0);
            c.due("none is left to go", x.forget(), 0);
            c.due("none bounds", x.bound(), 1);
        }
        for (int k = 0; k < 8; k++) {
            x.wish(0, 1, 1);
        }
        c.due("those that were refused do not count", x.forget(), 6);
    }

    private static void granted() {
        c.sentence(12, "Which WISHES THE LAW GRANTS (bits).");
        BankStore x = oneBank(3, 3);
        c.due("no WISHES", x.granted(), 0);
        for (int k = 0; k < 6; k++) {
            x.wish(0, 1, 1);
        }
        c.due("all six", x.granted(), 63);
        for (int k = 0; k < 6; k++) {
            x.forget();
            for (int other = 0; other < 6; other++) {
                x.wish(1, other == k ? 1 : 2, 1);
            }
            c.due("only WISH " + k, x.granted(), 1 << k);
        }
        x.forget();
        c.due("none now", x.granted(), 0);
    }

    private static void fewestAre(String which, BankStore x, int sort, int... due) {
        for (int what = 0; what < 4; what++) {
            int want = due.length == 1 ? due[0] : due[what];
            c.due(which + ", sort " + sort + ", what " + what, x.fewest(sort, what), want);
        }
    }

    private static void fewest() {
        c.sentence(13, "Of laws 0 (sort 0), 1 (sort 1) with a, b below M: the fewest BANKS (1 to 17) with which one"
                + " GRANTS all WISHES (what 0), how many of them (1), a (2), b (3) of the first by a, then b."
                + " BAD; NONE: none.");
        for (int sort = 0; sort < 2; sort++) {
            BankStore x = new BankStore();
            x.table(16, 16);
            fewestAre("no WISHES: one BANK, one law", x, sort, 1, 1, 0, 0);
            x.wish(0, 2, 1);
            // b must be 1 with 2 BANKS, and a is 0 or 1: none above, though a law may have 16.
            fewestAre("a, b below M", x, sort, 2, 2, 0, 1);
            x.forget();
            x.wish(1, 2, 1);
            fewestAre("the first by a", x, sort, 2, 2, 1, 0);
            x.forget();
            x.table(1, 16);
            x.wish(0, 16, 1);
            // b odd, a any of 16.
            fewestAre("16 BANKS", x, sort, 16, 16 * 8, 0, 1);
            x.wish(4, 1, 8);
            x.table(16, 8);
            x.wish(4, 16, 8);
            fewestAre("128 CELLS", x, sort, NONE);
            x.table(15, 8);
            fewestAre("nowhere, but for rows of 8", x, sort, 8, 8 * 4, 0, 1);
            for (int what : Check.outside(0, 3)) {
                c.due("what " + what, x.fewest(sort, what), BAD);
            }
        }
        BankStore x = new BankStore();
        x.table(16, 16);
        for (int kind = 0; kind < 4; kind++) {
            x.wish(kind, 16, 1);
        }
        fewestAre("17 BANKS", x, 0, 17, 16 * 14, 1, 2);
        fewestAre("not with 17", x, 1, NONE);
        x.forget();
        x.wish(4, 3, 6);
        fewestAre("18 CELLS", x, 0, NONE);
        fewestAre("18 CELLS", x, 1, NONE);
        x.banks(1);
        x.law(2, 0, 0);
        x.forget();
        x.wish(0, 3, 1);
        fewestAre("M and THE LAW do not count", x, 0, 3, 6, 0, 1);
        for (int sort : Check.outside(0, 1)) {
            c.due("sort " + sort, x.fewest(sort, 0), BAD);
        }
    }

    private static void boundIs(int kind, int n, int m, int h, int w, int due) {
        BankStore x = new BankStore();
        x.table(h, w);
        x.wish(kind, n, m);
        c.due("kind " + kind + ", n " + n + ", m " + m + " in " + h + " by " + w, x.bound(), due);
    }

    private static void bound() {
        c.sentence(14, "The fewest BANKS that any laying needs by the sizes of CUTS alone: the most CELLS of a CUT"
                + " of a WISH that is somewhere (1 at least).");
        c.due("no WISH", new BankStore().bound(), 1);
        boundIs(0, 16, 1, 1, 16, 16);
        boundIs(0, 16, 1, 16, 15, 1);
        boundIs(0, 2, 8, 1, 9, 2);
        boundIs(0, 2, 8, 16, 8, 1);
        boundIs(1, 16, 1, 16, 1, 16);
        boundIs(1, 16, 1, 15, 16, 1);
        boundIs(1, 2, 8, 9, 1, 2);
        boundIs(1, 2, 8, 8, 16, 1);
        for (int kind = 2; kind < 4; kind++) {
            boundIs(kind, 16, 1, 16, 16, 16);
            boundIs(kind, 16, 1, 15, 16, 1);
            boundIs(kind, 16, 1, 16, 15, 1);
            boundIs(kind, 3, 2, 5, 5, 3);
            boundIs(kind, 3, 2, 4, 5, 1);
            boundIs(kind, 3, 2, 5, 4, 1);
        }
        boundIs(4, 16, 8, 16, 8, 128);
        boundIs(4, 16, 8, 15, 8, 1);
        boundIs(4, 16, 8, 16, 7, 1);
        boundIs(4, 1, 1, 1, 1, 1);
        BankStore x = new BankStore();
        x.wish(0, 3, 1);
        x.wish(0, 9, 1);
        x.wish(1, 5, 1);
        x.wish(0, 2, 1);
        c.due("the most of those that are somewhere", x.bound(), 5);
        x.banks(1);
        c.due("BANKS do not count", x.bound(), 5);
    }

    private static void free() {
        c.sentence(15, "FREE LAYING for M: it becomes what is told for CELLS (THE LAW stays): how many TRIES it"
                + " took.");
        BankStore x = new BankStore();
        x.table(2, 2);
        x.law(1, 3, 4);
        x.wish(4, 2, 2);
        x.banks(4);
        c.due("just enough BANKS", x.free(), 1 + 2 + 3 + 4);
        told("just enough BANKS", x, 2, 0, 1, 2, 3);
        c.due("law", x.count(3), 1);
        c.due("a", x.count(4), 3);
        c.due("b", x.count(5), 4);
        x.lay(0, 0, 3);
        x.free();
        told("what was told is not looked at", x, 2, 0, 1, 2, 3);
        x.banks(17);
        c.due("all BANKS there can be", x.free(), 10);

        c.sentence(15, "STATE: more than 64 CELLS; SPENT, NONE (there is none): then nothing changed.");
        x.banks(3);
        x.lay(1, 1, 2);
        c.due("one BANK too few", x.free(), NONE);
        told("NONE: nothing changed", x, 2, 0, 0, 0, 2);
        x.table(5, 13);
        x.lay(4, 12, 1);
        c.due("65 CELLS", x.free(), STATE);
        c.due("STATE: nothing changed", x.cell(4, 12, 2), 1);
        x.table(16, 16);
        c.due("256 CELLS, STATE comes ahead of NONE", x.free(), STATE);
        BankStore more = Layings.takesOneMore();
        more.lay(0, 0, 1);
        more.lay(5, 4, 2);
        c.due("SPENT", more.free(), SPENT);
        int sum = 0;
        for (int k = 1; k < 29; k++) {
            sum += more.cell(k / 5, k % 5, 2);
        }
        c.due("SPENT: nothing changed", more.cell(0, 0, 2) * 100 + sum * 10 + more.cell(5, 4, 2), 102);
        c.due("SPENT: BANKS stay", more.count(2), 3);
        c.due("SPENT: WISHES stay", more.count(6), 4);
    }

    private static void freeBanks() {
        c.sentence(16, "The fewest BANKS (1, 2, .. 17, one by one) with which there is a FREE LAYING; nothing"
                + " changes.");
        c.due("one", new BankStore().freeBanks(), 1);
        BankStore x = Layings.needs17();
        x.lay(3, 4, 7);
        c.due("17", x.freeBanks(), 17);
        c.due("M stays", x.count(2), 8);
        c.due("told stays", x.cell(3, 4, 2) * 10 + x.cell(3, 3, 2), 70);
        for (int n = 1; n <= 16; n++) {
            BankStore row = new BankStore();
            row.table(1, 16);
            row.wish(0, n, 1);
            c.due("rows of " + n, row.freeBanks(), n);
        }

        c.sentence(16, "STATE; SPENT: with as many as are asked then it was; NONE.");
        x.table(13, 5);
        c.due("65 CELLS", x.freeBanks(), STATE);
        x.table(16, 16);
        x.wish(4, 16, 8);
        c.due("STATE comes ahead of NONE", x.freeBanks(), STATE);
        x.table(3, 6);
        x.forget();
        x.wish(4, 3, 6);
        c.due("18 CELLS, all apart", x.freeBanks(), NONE);
        x.table(8, 8);
        x.forget();
        x.wish(4, 8, 8);
        c.due("64 CELLS, all apart", x.freeBanks(), NONE);
        BankStore more = Layings.takesOneMore();
        c.due("SPENT with 3, though more would do", more.freeBanks(), SPENT);
        more.banks(17);
        c.holds("more would do", more.free() > 0);
        more.banks(2);
        c.due("with 2 there is none", more.free(), NONE);
    }
}
