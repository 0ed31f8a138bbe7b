/** Promises 8 to 16: CUTS, WISHES, laws that GRANT them and FREE LAYINGS. */
public final class CutsTest {
    private static final Check c = new Check();
    private static final int MIN = Integer.MIN_VALUE, MAX = Integer.MAX_VALUE;
    private static final int BAD = BankStore.BAD, STATE = BankStore.STATE, FULL = BankStore.FULL;
    private static final int NONE = BankStore.NONE, SPENT = BankStore.SPENT;

    public static void main(String[] args) {
        cut();
        cutEdges();
        cuts();
        wish();
        forget();
        granted();
        fewest();
        bound();
        free();
        freeBanks();
        c.finish();
    }

    /** Tells CELLS of THE TABLE, row by row, as figures. */
    private static BankStore laid(int h, int w, int m, String figures) {
        BankStore x = new BankStore();
        x.table(h, w);
        x.banks(m);
        x.law(2, 0, 0);
        for (int k = 0; k < figures.length(); k++) {
            x.lay(k / w, k % w, figures.charAt(k) - '0');
        }
        return x;
    }

    private static void cut() {
        c.promise(8);
        BankStore x = laid(3, 4, 4, "0112" + "1031" + "2110");
        c.due("row 0", x.cut(0, 4, 1, 0, 0), 2);
        c.due("row 0, two apart", x.cut(0, 2, 2, 0, 0), 1);
        c.due("row 2, from 1", x.cut(0, 2, 1, 2, 1), 2);
        c.due("column 0", x.cut(1, 3, 1, 0, 0), 1);
        c.due("column 0, two apart", x.cut(1, 2, 2, 0, 1), 2);
        c.due("slant", x.cut(2, 3, 1, 0, 1), 1);
        c.due("slant", x.cut(2, 2, 1, 0, 0), 2);
        c.due("slant, two apart", x.cut(2, 2, 2, 0, 1), 1);
        c.due("slant, two apart", x.cut(2, 2, 2, 0, 0), 1);
        c.due("other slant", x.cut(3, 3, 1, 0, 3), 1);
        c.due("other slant", x.cut(3, 2, 1, 0, 1), 2);
        c.due("other slant, two apart", x.cut(3, 2, 2, 0, 2), 1);
        c.due("other slant, two apart", x.cut(3, 2, 2, 0, 3), 1);
        c.due("block of 2 rows, 3 columns", x.cut(4, 2, 3, 0, 0), 3);
        c.due("block of 3 rows, 2 columns", x.cut(4, 3, 2, 0, 2), 3);
        c.due("block of 1", x.cut(4, 1, 1, 2, 3), 1);
        c.due("one CELL, far apart", x.cut(0, 1, 8, 2, 3), 1);
        c.due("one CELL, far apart", x.cut(3, 1, 8, 0, 0), 1);
    }

    private static void cutEdges() {
        BankStore x = new BankStore();
        c.due("row fits", x.cut(0, 8, 1, 7, 0), 1);
        c.due("row too long", x.cut(0, 8, 1, 7, 1), BAD);
        c.due("row apart fits", x.cut(0, 2, 7, 0, 0), 1);
        c.due("row apart too long", x.cut(0, 2, 8, 0, 0), BAD);
        c.due("column fits", x.cut(1, 8, 1, 0, 7), 8);
        c.due("column too long", x.cut(1, 8, 1, 1, 0), BAD);
        c.due("slant too wide", x.cut(2, 3, 1, 0, 6), BAD);
        c.due("slant too high", x.cut(2, 3, 1, 6, 0), BAD);
        c.due("other slant fits", x.cut(3, 3, 1, 5, 2), 1);
        c.due("other slant too wide", x.cut(3, 3, 1, 0, 1), BAD);
        c.due("other slant too high", x.cut(3, 3, 1, 6, 4), BAD);
        c.due("block fits", x.cut(4, 8, 8, 0, 0), 8);
        c.due("block too wide", x.cut(4, 2, 3, 0, 6), BAD);
        c.due("block too high", x.cut(4, 3, 2, 6, 0), BAD);
        for (int v : new int[] {-1, 8, MIN, MAX, MAX - 1}) {
            for (int kind = 0; kind < 5; kind++) {
                c.due("no such row", x.cut(kind, 2, 2, v, 4), BAD);
                c.due("no such column", x.cut(kind, 2, 2, 4, v), BAD);
            }
        }
        for (int v : new int[] {-1, 5, MIN, MAX}) {
            c.due("kind " + v, x.cut(v, 1, 1, 0, 0), BAD);
        }
        for (int v : new int[] {0, -1, 17, MIN, MAX}) {
            c.due("n " + v, x.cut(4, v, 1, 0, 0), BAD);
        }
        for (int v : new int[] {0, -1, 9, MIN, MAX}) {
            c.due("m " + v, x.cut(4, 1, v, 0, 0), BAD);
        }
        x.table(16, 16);
        x.banks(17);
        c.due("longest", x.cut(0, 16, 1, 15, 0), 1);
        c.due("largest block", x.cut(4, 16, 8, 0, 8), 16);
    }

    private static void cuts() {
        c.promise(9);
        BankStore x = laid(3, 4, 4, "0112" + "1031" + "2110");
        // Rows of two: 01 11 12 / 10 03 31 / 21 11 10.
        int[] rows = {9, 7, 2, 11, 1};
        // Columns of two: 01 10 13 21 / 12 01 31 10.
        int[] columns = {8, 8, 1, 8, 0};
        // Slants of two: 00 13 11 / 11 01 30.
        int[] slants = {6, 3, 2, 9, 0};
        // Other slants of two, from columns 1, 2, 3: 11 10 23 / 02 31 11.
        int[] others = {6, 4, 2, 8, 1};
        // Blocks of two rows and two columns: 0110 1103 1231 / 1021 0311 3110.
        int[] blocks = {6, 0, 2, 12, 0};
        for (int what = 0; what < 5; what++) {
            c.due("rows " + what, x.cuts(0, 2, 1, what), rows[what]);
            c.due("columns " + what, x.cuts(1, 2, 1, what), columns[what]);
            c.due("slants " + what, x.cuts(2, 2, 1, what), slants[what]);
            c.due("other slants " + what, x.cuts(3, 2, 1, what), others[what]);
            c.due("blocks " + what, x.cuts(4, 2, 2, what), blocks[what]);
        }
        BankStore y = laid(3, 3, 2, "010" + "101" + "011");
        c.due("first of the most is not the first", y.cuts(0, 2, 1, 4), 33);
        c.due("first of the most", y.cuts(1, 3, 1, 4), 0);
        int[] none = {0, 0, 0, 0, NONE};
        for (int what = 0; what < 5; what++) {
            c.due("none " + what, x.cuts(0, 5, 1, what), none[what]);
            c.due("none " + what, x.cuts(4, 4, 1, what), none[what]);
        }
        for (int v : new int[] {-1, 5, MIN, MAX}) {
            c.due("what " + v, x.cuts(0, 1, 1, v), BAD);
            c.due("kind " + v, x.cuts(v, 1, 1, 0), BAD);
        }
        c.due("n 0", x.cuts(0, 0, 1, 0), BAD);
        c.due("n 17", x.cuts(0, 17, 1, 0), BAD);
        c.due("m 0", x.cuts(0, 1, 0, 0), BAD);
        c.due("m 9", x.cuts(0, 1, 9, 0), BAD);
    }

    private static void wish() {
        c.promise(10);
        BankStore x = new BankStore();
        for (int v : new int[] {-1, 5, MIN, MAX}) {
            c.due("kind " + v, x.wish(v, 1, 1), BAD);
        }
        for (int v : new int[] {0, 17, MIN, MAX}) {
            c.due("n " + v, x.wish(0, v, 1), BAD);
        }
        for (int v : new int[] {0, 9, MIN, MAX}) {
            c.due("m " + v, x.wish(0, 1, v), BAD);
        }
        c.due("none came", x.count(6), 0);
        for (int k = 0; k < 6; k++) {
            c.due("wish " + k, x.wish(k % 5, 16, 8), k);
        }
        c.due("the seventh", x.wish(0, 1, 1), FULL);
        c.due("BAD comes first", x.wish(0, 0, 1), BAD);
        c.due("six", x.count(6), 6);
    }

    private static void forget() {
        c.promise(11);
        BankStore x = new BankStore();
        c.due("none", x.forget(), 0);
        x.wish(1, 2, 1);
        x.wish(0, 2, 1);
        c.due("two", x.forget(), 2);
        c.due("none now", x.count(6), 0);
        c.due("none granted", x.granted(), 0);
        c.due("numbers begin anew", x.wish(0, 2, 1), 0);
        c.due("those that went are not looked at", x.fewest(0, 0), 2);
        x.wish(0, 2, 1);
        x.wish(0, 8, 1);
        x.forget();
        x.wish(0, 2, 1);
        x.wish(0, 2, 1);
        c.due("those that went are not looked at", x.fewest(1, 0), 2);
        c.due("those that went are not looked at", x.freeBanks(), 2);
        c.due("those that went are not looked at", x.bound(), 2);
        for (int k = 2; k < 6; k++) {
            x.wish(0, 2, 1);
        }
        c.due("six", x.fewest(0, 0), 2);
        c.due("six", x.granted(), 63);
    }

    private static void granted() {
        c.promise(12);
        BankStore x = new BankStore();
        x.wish(1, 2, 1);
        x.wish(0, 8, 1);
        x.wish(0, 16, 8);
        x.wish(4, 2, 2);
        x.wish(3, 3, 1);
        x.wish(1, 1, 8);
        c.due("law 0, a 0, b 1", x.granted(), 2 + 4 + 16 + 32);
        x.law(0, 1, 1);
        c.due("law 0, a 1, b 1", x.granted(), 1 + 2 + 4 + 32);
        x.law(1, 1, 1);
        c.due("law 1, a 1, b 1", x.granted(), 1 + 2 + 4 + 32);
        x.law(2, 0, 0);
        c.due("law 2, all 0", x.granted(), 4 + 32);
        BankStore y = laid(2, 3, 3, "012" + "011");
        y.wish(0, 2, 1);
        y.wish(0, 2, 2);
        y.wish(4, 2, 1);
        c.due("a clash in the last place counts", y.granted(), 2);
    }

    private static void fewest() {
        c.promise(13);
        BankStore x = new BankStore();
        for (int sort = 0; sort < 2; sort++) {
            int[] noWish = {1, 1, 0, 0};
            for (int what = 0; what < 4; what++) {
                c.due("no WISHES", x.fewest(sort, what), noWish[what]);
            }
        }
        x.table(3, 3);
        x.wish(4, 2, 2);
        // Offsets 0, b, a, a + b must differ modulo M: not for 1, 2, 3; for 4 a 1, b 2 is the first.
        c.due("blocks", x.fewest(0, 0), 4);
        c.due("blocks", x.fewest(0, 1), 4);
        c.due("blocks", x.fewest(0, 2), 1);
        c.due("blocks", x.fewest(0, 3), 2);
        c.due("blocks, law 1", x.fewest(1, 0), 4);
        c.due("blocks, law 1, first a", x.fewest(1, 2), 1);
        c.due("blocks, law 1, first b", x.fewest(1, 3), 2);
        c.due("THE LAW stays", x.count(3) * 100 + x.count(4) * 10 + x.count(5), 1);
        c.due("BANKS stay", x.count(2), 8);
        x.forget();
        x.table(16, 16);
        x.wish(0, 16, 1);
        x.wish(1, 16, 1);
        x.wish(2, 16, 1);
        x.wish(3, 16, 1);
        c.due("17 BANKS", x.fewest(0, 0), 17);
        // a, b, a + b and a - b must not be 0 modulo 17.
        c.due("17 BANKS, how many", x.fewest(0, 1), 16 * 14);
        c.due("17 BANKS, a", x.fewest(0, 2), 1);
        c.due("17 BANKS, b", x.fewest(0, 3), 2);
        c.due("law 1: none", x.fewest(1, 0), NONE);
        c.due("law 1: none", x.fewest(1, 3), NONE);
        x.wish(4, 6, 3);
        c.due("18 CELLS: none", x.fewest(0, 0), NONE);
        for (int v : new int[] {-1, 2, MIN, MAX}) {
            c.due("sort " + v, x.fewest(v, 0), BAD);
        }
        for (int v : new int[] {-1, 4, MIN, MAX}) {
            c.due("what " + v, x.fewest(0, v), BAD);
        }
        x.table(5, 5);
        c.due("WISHES that are nowhere", x.fewest(0, 0), 1);
    }

    private static void bound() {
        c.promise(14);
        BankStore x = new BankStore();
        c.due("no WISH", x.bound(), 1);
        x.wish(0, 9, 1);
        c.due("nowhere", x.bound(), 1);
        x.wish(1, 3, 2);
        c.due("column", x.bound(), 3);
        x.wish(4, 2, 5);
        c.due("block", x.bound(), 10);
        x.wish(2, 8, 1);
        c.due("a smaller one", x.bound(), 10);
        x.wish(4, 8, 8);
        c.due("all of THE TABLE", x.bound(), 64);
        x.table(16, 16);
        x.wish(4, 16, 8);
        c.due("largest", x.bound(), 128);
        x.table(1, 16);
        c.due("row", x.bound(), 9);
    }

    private static void free() {
        c.promise(15);
        BankStore x = new BankStore();
        x.table(2, 2);
        x.banks(3);
        c.due("no WISHES: one TRY a CELL", x.free(), 4);
        x.wish(0, 2, 1);
        x.wish(1, 2, 1);
        // 0; 0 1; 0 1; 1, then 0, 1 clash or not: 0 | 0,1 | 0,1 | 0.
        c.due("2 by 2", x.free(), 1 + 2 + 2 + 1);
        c.due("told 0 1", x.cell(0, 1, 2), 1);
        c.due("told 1 0", x.cell(1, 0, 2), 1);
        c.due("told 1 1", x.cell(1, 1, 2), 0);
        c.due("THE LAW stays", x.count(3), 0);
        x.wish(4, 2, 2);
        x.lay(0, 0, 2);
        // 0 | 0 1 | 0 1 2 | 0 1 2: back; the greatest ahead of CELL 2 is 1; CELL 1 may be 1 at most.
        c.due("NONE", x.free(), NONE);
        c.due("nothing changed", x.cell(0, 0, 2), 2);
        c.due("nothing changed", x.cell(0, 1, 2), 1);
        x.banks(4);
        x.lay(0, 0, 2);
        c.due("four BANKS", x.free(), 1 + 2 + 3 + 4);
        c.due("told 0 0", x.cell(0, 0, 2), 0);
        c.due("told 1 1", x.cell(1, 1, 2), 3);
        x.table(1, 1);
        c.due("one CELL", x.free(), 1);
        x.lay(0, 0, 3);
        x.free();
        c.due("one CELL is told anew", x.cell(0, 0, 2), 0);
        c.due("one CELL", x.freeBanks(), 1);
        x.table(5, 13);
        c.due("65 CELLS", x.free(), STATE);
        x.table(16, 4);
        x.forget();
        c.due("64 CELLS", x.free(), 64);
        x.table(4, 16);
        c.due("64 CELLS", x.free(), 64);
        x.banks(1);
        c.due("one BANK", x.free(), 64);
        x.wish(0, 2, 8);
        c.due("one BANK: NONE", x.free(), NONE);
        x.banks(2);
        c.due("two BANKS, eight apart", x.free(), 4 * (8 + 16));
        c.due("told 3 15", x.cell(3, 15, 2), 1);
        spent();
    }

    private static void spent() {
        BankStore x = new BankStore();
        for (int kind = 0; kind < 4; kind++) {
            x.wish(kind, 8, 1);
        }
        x.wish(4, 3, 3);
        c.due("with 8 BANKS there is none", x.free(), NONE);
        x.banks(9);
        x.lay(0, 0, 3);
        c.due("SPENT", x.free(), SPENT);
        c.due("nothing changed", x.cell(0, 0, 2), 3);
        c.due("nothing changed", x.cell(7, 7, 2), 0);
        c.due("the 20000th TRY lays the last CELL", Layings.takesAllTries().free(), 20000);
        BankStore y = Layings.takesOneMore();
        c.due("the 20001st would", y.free(), SPENT);
        c.due("SPENT with as many BANKS", y.freeBanks(), SPENT);
    }

    private static void freeBanks() {
        c.promise(16);
        BankStore x = new BankStore();
        x.lay(2, 2, 6);
        c.due("no WISHES", x.freeBanks(), 1);
        x.wish(0, 8, 1);
        c.due("rows", x.freeBanks(), 8);
        c.due("nothing changes", x.cell(2, 2, 2), 6);
        c.due("nothing changes", x.count(2), 8);
        x.wish(4, 8, 8);
        c.due("64 CELLS, all apart", x.freeBanks(), NONE);
        x.table(3, 6);
        x.forget();
        x.wish(4, 3, 6);
        c.due("18 CELLS", x.freeBanks(), NONE);
        x.table(3, 5);
        x.forget();
        x.wish(4, 3, 5);
        c.due("15 CELLS", x.freeBanks(), 15);
        x.table(9, 8);
        c.due("72 CELLS", x.freeBanks(), STATE);
        x = Layings.needs17();
        c.due("17 of 20 CELLS", x.freeBanks(), 17);
        x.banks(16);
        c.due("not with 16", x.free(), NONE);
        x.banks(17);
        c.holds("with 17", x.free() > 0);
        x.table(8, 8);
        x.forget();
        for (int kind = 0; kind < 4; kind++) {
            x.wish(kind, 8, 1);
        }
        x.wish(4, 3, 3);
        c.due("SPENT", x.freeBanks(), SPENT);
    }
}
