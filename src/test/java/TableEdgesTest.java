/** The boundary cases of THE TABLE, BANKS and LAWS, sentence by sentence: Terms, promises 1 to 7 and 35. */
public final class TableEdgesTest {
    private static final Check c = new Check();
    private static final int MIN = Integer.MIN_VALUE, MAX = Integer.MAX_VALUE;
    private static final int BAD = BankStore.BAD, NONE = BankStore.NONE;

    public static void main(String[] args) {
        sides();
        rowsAndColumns();
        bankNumbers();
        sums();
        xors();
        toldCells();
        firstLaw();
        places();
        newObject();
        table();
        banks();
        law();
        lay();
        cell();
        bank();
        count();
        lastCall();
        c.finish();
    }

    private static void sides() {
        c.sentence(0, "THE TABLE has h by w CELLS (1 to 16 each; 8 by 8 at first)");
        BankStore first = new BankStore();
        c.due("the last CELL at first", first.cell(7, 7, 2), 0);
        c.due("no row 8 at first", first.cell(8, 7, 2), BAD);
        c.due("no column 8 at first", first.cell(7, 8, 2), BAD);
        for (int h = 1; h <= 16; h++) {
            BankStore x = new BankStore();
            for (int w = 1; w <= 16; w++) {
                String size = h + " by " + w;
                c.due(size, x.table(h, w), 1);
                c.due(size + ": rows", x.count(0), h);
                c.due(size + ": columns", x.count(1), w);
                c.due(size + ": the last CELL", x.cell(h - 1, w - 1, 2), 0);
                c.due(size + ": no row behind", x.cell(h, w - 1, 2), BAD);
                c.due(size + ": no column behind", x.cell(h - 1, w, 2), BAD);
            }
        }
        BankStore x = new BankStore();
        x.table(3, 5);
        for (int v : Check.outside(1, 16)) {
            c.due("table(" + v + ", 1)", x.table(v, 1), BAD);
            c.due("table(16, " + v + ")", x.table(16, v), BAD);
            c.due("table(" + v + ", " + v + ")", x.table(v, v), BAD);
        }
        c.due("rows stay", x.count(0), 3);
        c.due("columns stay", x.count(1), 5);
    }

    private static void rowsAndColumns() {
        c.sentence(0, "CELL (i, j) in row i, column j.");
        BankStore x = new BankStore();
        x.table(2, 16);
        c.due("row 1, column 15 is", x.lay(1, 15, 3), 0);
        c.due("row 15, column 1 is not", x.lay(15, 1, 3), BAD);
        c.due("row 0, column 16 is not row 1", x.lay(0, 16, 3), BAD);
        c.due("row 1, column -1 is not row 0", x.cell(1, -1, 2), BAD);
        c.due("row 2, column -1 is not row 1", x.cell(2, -1, 2), BAD);
    }

    private static void bankNumbers() {
        c.sentence(0, "BANKS: M (1 to 17; 8 at first), numbered from 0 on.");
        BankStore first = new BankStore();
        c.due("BANK 7 at first", first.bank(7, 0), 8);
        c.due("no BANK 8 at first", first.bank(8, 0), BAD);
        BankStore x = new BankStore();
        x.table(16, 16);
        for (int m = 1; m <= 17; m++) {
            c.due("banks(" + m + ")", x.banks(m), m == 1 ? 8 : m - 1);
            c.holds("of " + m + ": the last", x.bank(m - 1, 0) >= 0);
            c.due("of " + m + ": none behind", x.bank(m, 0), BAD);
            c.due("of " + m + ": none ahead of 0", x.bank(-1, 0), BAD);
        }
        for (int v : Check.outside(1, 17)) {
            c.due("banks(" + v + ")", x.banks(v), BAD);
        }
        c.due("M stays", x.count(2), 17);
    }

    private static void sums() {
        c.sentence(0, "LAWS: 0: (a i + b j) modulo M (a, b 0 to 16).");
        for (int m = 1; m <= 17; m++) {
            BankStore x = new BankStore();
            x.table(16, 16);
            x.banks(m);
            x.law(0, 16, 16);
            c.due("480 modulo " + m, x.cell(15, 15, 0), 480 % m);
            x.law(0, 1, 1);
            c.due(m - 1 + " modulo " + m, x.cell(0, Math.min(15, m - 1), 0), Math.min(15, m - 1));
            c.due(m + " modulo " + m + " comes back to 0", x.cell(m - m / 2, m / 2, 0), 0);
            c.due(m + 1 + " modulo " + m, x.cell(m + 1 - m / 2, m / 2, 0), 1 % m);
            x.law(0, 0, 0);
            c.due("a 0, b 0 with " + m, x.cell(15, 15, 0), 0);
        }
        BankStore x = new BankStore();
        x.law(0, 16, 0);
        for (int v : Check.outside(0, 16)) {
            c.due("a " + v, x.law(0, v, 3), BAD);
            c.due("b " + v, x.law(0, 3, v), BAD);
        }
        c.due("a stays", x.count(4), 16);
        c.due("b stays", x.count(5), 0);
    }

    private static void xors() {
        c.sentence(0, "1: (a i xor b j) modulo M.");
        for (int m = 1; m <= 17; m++) {
            BankStore x = new BankStore();
            x.table(16, 16);
            x.banks(m);
            x.law(1, 16, 1);
            c.due("255 modulo " + m, x.cell(15, 15, 0), 255 % m);
            x.law(1, 16, 16);
            c.due("alike, 0 modulo " + m, x.cell(15, 15, 0), 0);
            c.due("16 xor 0 modulo " + m, x.cell(1, 0, 0), 16 % m);
            c.due("0 xor 240 modulo " + m, x.cell(0, 15, 0), 240 % m);
            x.law(1, 0, 0);
            c.due("a 0, b 0 with " + m, x.cell(15, 15, 0), 0);
        }
        BankStore x = new BankStore();
        x.law(1, 0, 16);
        for (int v : Check.outside(0, 16)) {
            c.due("a " + v, x.law(1, v, 3), BAD);
            c.due("b " + v, x.law(1, 3, v), BAD);
        }
        c.due("a stays", x.count(4), 0);
        c.due("b stays", x.count(5), 16);
    }

    private static void toldCells() {
        c.sentence(0, "2: told for each CELL (at first all 0).");
        BankStore x = new BankStore();
        x.law(2, 0, 0);
        for (int k = 0; k < 64; k++) {
            c.due("CELL " + k + " at first", x.cell(k / 8, k % 8, 0), 0);
        }
        for (int k = 0; k < 64; k++) {
            x.lay(k / 8, k % 8, k * 5 % 8);
        }
        for (int k = 0; k < 64; k++) {
            c.due("CELL " + k + " has its own", x.cell(k / 8, k % 8, 0), k * 5 % 8);
        }
    }

    private static void firstLaw() {
        c.sentence(0, "At first law 0 with a 0, b 1.");
        BankStore x = new BankStore();
        c.due("law", x.count(3), 0);
        c.due("a", x.count(4), 0);
        c.due("b", x.count(5), 1);
        c.due("the last CELL", x.cell(7, 7, 0), 7);
        c.due("the first of the last row", x.cell(7, 0, 0), 0);
    }

    private static void places() {
        c.sentence(0, "PLACE of a CELL in its BANK: how many CELLS of that BANK come ahead of it, row by row.");
        BankStore x = new BankStore();
        x.table(16, 16);
        x.banks(1);
        c.due("none is ahead of the first", x.cell(0, 0, 1), 0);
        c.due("ahead of the last of a row", x.cell(0, 15, 1), 15);
        c.due("ahead of the first of the next row", x.cell(1, 0, 1), 16);
        c.due("all others are ahead of the last", x.cell(15, 15, 1), 255);
        x.banks(17);
        x.law(2, 0, 0);
        x.lay(15, 15, 16);
        c.due("alone in its BANK", x.cell(15, 15, 1), 0);
        c.due("those of other BANKS do not count", x.cell(15, 14, 1), 254);
        x.lay(0, 15, 16);
        x.lay(1, 0, 16);
        c.due("the row ahead comes first", x.cell(0, 15, 1), 0);
        c.due("then the row behind", x.cell(1, 0, 1), 1);
        c.due("then the last", x.cell(15, 15, 1), 2);
    }

    private static void newObject() {
        c.sentence(1, "As told at first; no WISHES, PROGRAM of no lines; SHEETS of nothing.");
        int[] counts = {8, 8, 8, 0, 0, 1, 0, 4, 0, 0, NONE};
        BankStore x = new BankStore();
        for (int what = 0; what <= 10; what++) {
            c.due("count(" + what + ")", x.count(what), counts[what]);
        }
        c.due("no WISHES go", x.forget(), 0);
        c.due("no WISH is granted", x.granted(), 0);
        c.due("no LINE 0", x.line(0, 0), BAD);
        c.due("no END of LINE 0", x.time(1, true, 0), BAD);
        c.due("THE END of no lines", x.time(1, true, NONE), 0);
        c.due("no FAULT yet", x.fault(), 0);
        c.due("THE TAPE is empty", x.end(0), 0);
        for (int k = 0; k < 4; k++) {
            c.due("SHEET " + k + " is nothing", x.write(k, 0, 0), -11);
            c.due("SHEET " + k + " is nothing to read", x.read(k, 0, 0), -11);
        }
        c.due("REST at first", x.rest(4), 4);
    }

    /** A TABLE in which something other than 0 is told for every CELL. */
    private static BankStore allTold(int h, int w) {
        BankStore x = new BankStore();
        x.table(h, w);
        x.banks(17);
        for (int k = 0; k < h * w; k++) {
            x.lay(k / w, k % w, 1 + k % 16);
        }
        return x;
    }

    private static void allAreZero(String when, BankStore x, int h, int w) {
        int sum = 0;
        for (int k = 0; k < h * w; k++) {
            sum += Math.abs(x.cell(k / w, k % w, 2));
        }
        c.due(when + ": told, all summed", sum, 0);
    }

    private static void table() {
        c.sentence(2, "THE TABLE becomes h by w; what was told for CELLS becomes 0: 1. BAD.");
        BankStore same = allTold(8, 8);
        c.due("of the same size", same.table(8, 8), 1);
        allAreZero("of the same size", same, 8, 8);
        BankStore less = allTold(11, 10);
        c.due("one CELL", less.table(1, 1), 1);
        allAreZero("one CELL", less, 1, 1);
        c.due("all there can be", less.table(16, 16), 1);
        allAreZero("all there can be", less, 16, 16);
        BankStore refused = allTold(4, 3);
        c.due("no rows", refused.table(0, 3), BAD);
        c.due("no columns", refused.table(4, 0), BAD);
        c.due("17 rows", refused.table(17, 3), BAD);
        c.due("17 columns", refused.table(4, 17), BAD);
        for (int k = 0; k < 12; k++) {
            c.due("refused: told stays for CELL " + k, refused.cell(k / 3, k % 3, 2), 1 + k);
        }
    }

    private static void banks() {
        c.sentence(3, "BANKS become M; what was told for CELLS becomes 0: what M was. BAD.");
        BankStore same = allTold(8, 8);
        c.due("as many", same.banks(17), 17);
        allAreZero("as many", same, 8, 8);
        BankStore one = allTold(16, 14);
        c.due("one", one.banks(1), 17);
        allAreZero("one", one, 16, 14);
        c.due("what it was: one", one.banks(17), 1);
        BankStore refused = allTold(3, 4);
        c.due("none", refused.banks(0), BAD);
        c.due("18", refused.banks(18), BAD);
        for (int k = 0; k < 12; k++) {
            c.due("refused: told stays for CELL " + k, refused.cell(k / 4, k % 4, 2), 1 + k);
        }
        c.due("refused: M stays", refused.banks(2), 17);
    }

    private static void law() {
        c.sentence(4, "THE LAW becomes one (2: a, b are not looked at, stay): what its sort was. BAD.");
        BankStore x = new BankStore();
        for (int was = 0; was < 3; was++) {
            for (int next = 0; next < 3; next++) {
                x.law(was, 4, 9);
                c.due("from " + was + " to " + next, x.law(next, 4, 9), was);
                c.due("is now " + next, x.count(3), next);
            }
        }
        x.law(1, 16, 0);
        for (int v : Check.outside(0, 16)) {
            c.holds("law 2 with a " + v, x.law(2, v, 5) >= 0);
            c.holds("law 2 with b " + v, x.law(2, 5, v) >= 0);
        }
        c.due("a stays", x.count(4), 16);
        c.due("b stays", x.count(5), 0);
        for (int sort : Check.outside(0, 2)) {
            c.due("sort " + sort, x.law(sort, 0, 0), BAD);
        }
        c.due("law 0 with a 17", x.law(0, 17, 1), BAD);
        c.due("law 1 with b -1", x.law(1, 1, -1), BAD);
        c.due("refused: the sort stays", x.count(3), 2);
        c.due("refused: a stays", x.count(4), 16);
        c.due("refused: b stays", x.count(5), 0);
    }

    private static void lay() {
        c.sentence(5, "The BANK that is told for a CELL becomes v: what it was. BAD: also not below M.");
        for (int m = 1; m <= 17; m++) {
            BankStore x = new BankStore();
            x.banks(m);
            c.due("the last of " + m, x.lay(7, 7, m - 1), 0);
            c.due("M itself, of " + m, x.lay(7, 7, m), BAD);
            c.due("refused: what it was, of " + m, x.lay(7, 7, 0), m - 1);
        }
        BankStore x = new BankStore();
        x.table(5, 3);
        for (int v : Check.outside(0, 7)) {
            c.due("v " + v, x.lay(0, 0, v), BAD);
        }
        for (int i : Check.outside(0, 4)) {
            c.due("row " + i, x.lay(i, 0, 1), BAD);
        }
        for (int j : Check.outside(0, 2)) {
            c.due("column " + j, x.lay(0, j, 1), BAD);
        }
        allAreZero("refused", x, 5, 3);
        c.due("the corners: first", x.lay(0, 0, 1), 0);
        c.due("the corners: end of the first row", x.lay(0, 2, 2), 0);
        c.due("the corners: begin of the last row", x.lay(4, 0, 3), 0);
        c.due("the corners: last", x.lay(4, 2, 4), 0);
        int[] corners = {x.cell(0, 0, 2), x.cell(0, 2, 2), x.cell(4, 0, 2), x.cell(4, 2, 2)};
        for (int k = 0; k < 4; k++) {
            c.due("corner " + k, corners[k], k + 1);
        }
    }

    private static void cell() {
        c.sentence(6, "Of a CELL: its BANK by THE LAW (what 0), its PLACE (1), the BANK that is told (2). BAD.");
        BankStore x = new BankStore();
        x.table(5, 3);
        x.lay(4, 2, 6);
        c.due("what 0 of the last", x.cell(4, 2, 0), 2);
        c.due("what 1 of the last", x.cell(4, 2, 1), 4);
        c.due("what 2 of the last", x.cell(4, 2, 2), 6);
        for (int what : Check.outside(0, 2)) {
            c.due("what " + what, x.cell(0, 0, what), BAD);
        }
        for (int what = 0; what < 3; what++) {
            for (int i : Check.outside(0, 4)) {
                c.due("row " + i + ", what " + what, x.cell(i, 0, what), BAD);
            }
            for (int j : Check.outside(0, 2)) {
                c.due("column " + j + ", what " + what, x.cell(0, j, what), BAD);
            }
        }
    }

    private static void bank() {
        c.sentence(7, "Of BANK v: how many CELLS (what 0), the first (row times 16 and column) (1; NONE), the last"
                + " (2; NONE). BAD.");
        BankStore x = new BankStore();
        x.table(16, 16);
        x.banks(1);
        c.due("all CELLS", x.bank(0, 0), 256);
        c.due("the first of all", x.bank(0, 1), 0);
        c.due("the last of all", x.bank(0, 2), 255);
        x.table(1, 1);
        c.due("one CELL", x.bank(0, 0), 1);
        c.due("one CELL is the first", x.bank(0, 1), 0);
        c.due("one CELL is the last", x.bank(0, 2), 0);
        x.table(3, 2);
        x.banks(17);
        c.due("an empty BANK", x.bank(16, 0), 0);
        c.due("an empty BANK has no first", x.bank(16, 1), NONE);
        c.due("an empty BANK has no last", x.bank(16, 2), NONE);
        c.due("row times 16, not times w", x.bank(1, 2), 33);
        x.law(0, 2, 1);
        // Row by row: BANKS 0, 1 / 2, 3 / 4, 5.
        for (int v = 0; v < 6; v++) {
            c.due("one CELL in BANK " + v, x.bank(v, 0), 1);
            c.due("the first of BANK " + v, x.bank(v, 1), v / 2 * 16 + v % 2);
            c.due("the last of BANK " + v, x.bank(v, 2), v / 2 * 16 + v % 2);
        }
        c.due("a row behind the last would be BANK 6", x.bank(6, 1), NONE);
        for (int v : Check.outside(0, 16)) {
            c.due("v " + v, x.bank(v, 0), BAD);
            c.due("v " + v + ": BAD, not NONE", x.bank(v, 1), BAD);
            c.due("v " + v + ": BAD, not NONE", x.bank(v, 2), BAD);
        }
        for (int what : Check.outside(0, 2)) {
            c.due("what " + what, x.bank(0, what), BAD);
            c.due("what " + what + " of an empty BANK", x.bank(16, what), BAD);
        }
    }

    private static void count() {
        c.sentence(35, "How many: 0 rows, 1 columns, 2 BANKS, 3 the LAW, 4 a, 5 b, 6 WISHES, 7 REST, 8 lines, 9"
                + " bytes on THE TAPE, 10 CELLS of SHEET 0 (NONE: nothing). BAD.");
        BankStore x = new BankStore();
        x.table(1, 16);
        x.banks(17);
        x.law(1, 0, 16);
        for (int k = 0; k < 6; k++) {
            x.wish(0, 1, 1);
        }
        x.rest(12);
        Check.program(x, "load a0 1;".repeat(16));
        for (int k = 0; k < 30; k++) {
            x.feed(0);
        }
        x.sheet(0, 0, 256);
        int[] most = {1, 16, 17, 1, 0, 16, 6, 12, 16, 240, 256};
        for (int what = 0; what <= 10; what++) {
            c.due("count(" + what + ")", x.count(what), most[what]);
        }
        x.sheet(0, 0, 0);
        c.due("SHEET 0 of no CELLS", x.count(10), 0);
        BankStore y = new BankStore();
        y.sheet(1, 0, 9);
        c.due("SHEET 0 is nothing", y.count(10), NONE);
        c.due("what -1", x.count(-1), BAD);
        c.due("what 11", x.count(11), BAD);
        c.due("what MIN", x.count(MIN), BAD);
        c.due("what MAX", x.count(MAX), BAD);
    }

    private static void lastCall() {
        c.promise(1);
        BankStore x = new BankStore();
        for (int call = 1; call <= 512; call++) {
            int was = call < 64 ? 0 : (call - 64) % 7;
            c.due("call " + call + " of an object", x.lay(call % 8, call / 8 % 8, call % 7), was);
        }
    }
}
