/** The boundary cases of SHEETS, sentence by sentence: Terms, promises 32 to 34. */
public final class SheetsEdgesTest {
    private static final Check c = new Check();
    private static final int MIN = Integer.MIN_VALUE, MAX = Integer.MAX_VALUE;
    private static final int BAD = BankStore.BAD, NONE = BankStore.NONE;
    private static final int NULL = -11, INDEX = -12, CAST = -13, SIZE = -14;

    public static void main(String[] args) {
        rowsOfCells();
        faults();
        sheet();
        write();
        read();
        readFaults();
        noBank();
        c.finish();
    }

    /** An object with a TABLE of one CELL: a read takes one CELL of a SHEET. */
    private static BankStore oneCell() {
        BankStore x = new BankStore();
        x.table(1, 1);
        x.banks(17);
        return x;
    }

    private static void rowsOfCells() {
        c.sentence(0, "SHEETS 0 to 3 are rows of BYTES (lane 0), SHORTS (1), INTS (2) with 0 to 256 CELLS, or"
                + " nothing (at first).");
        for (int k = 0; k < 4; k++) {
            BankStore x = oneCell();
            c.due("SHEET " + k + " at first", x.read(k, 0, 0), NULL);
            for (int lane = 0; lane < 3; lane++) {
                for (int n : new int[] {0, 1, 2, 127, 128, 255, 256}) {
                    String which = "SHEET " + k + ", lane " + lane + ", " + n + " CELLS";
                    c.due(which, x.sheet(k, lane, n), 1);
                    c.due(which + ", behind the last", x.write(k, n, 5), INDEX);
                    c.due(which + ", behind the last, read", x.read(k, lane, n), INDEX);
                    c.due(which + ", the last", x.write(k, n - 1, 5), n == 0 ? INDEX : 1);
                    int read = x.read(k, lane, n - 1);
                    c.holds(which + ", the last, read", n == 0 ? read == INDEX : read >= 0);
                }
                c.due("SHEET " + k + ", lane " + lane + ", 257", x.sheet(k, lane, 257), BAD);
            }
            for (int other = 0; other < 4; other++) {
                c.due("SHEET " + other + " beside SHEET " + k, x.write(other, 0, 0), other == k ? 1 : NULL);
            }
        }
        BankStore x = oneCell();
        for (int k : Check.outside(0, 3)) {
            c.due("no SHEET " + k, x.sheet(k, 0, 1), BAD);
            c.due("no SHEET " + k + " to write", x.write(k, 0, 0), BAD);
            c.due("no SHEET " + k + " to read", x.read(k, 0, 0), BAD);
        }
        for (int lane : Check.outside(0, 2)) {
            c.due("no lane " + lane, x.sheet(0, lane, 1), BAD);
            c.due("no lane " + lane + " to read", x.read(0, lane, 0), BAD);
        }
    }

    private static void faults() {
        c.sentence(0, "A FAULT is what the machine finds: 1 NULL (nothing), 2 INDEX, 3 CAST (another lane), 4 SIZE"
                + " (below 0).");
        BankStore x = oneCell();
        c.due("NULL, write", x.write(2, 0, 0), NULL);
        c.due("NULL, read", x.read(2, 0, 0), NULL);
        for (int n : new int[] {-1, -2, -256, MIN + 1, MIN}) {
            c.due("SIZE " + n, x.sheet(2, 0, n), SIZE);
        }
        c.due("nothing still", x.write(2, 0, 0), NULL);
        for (int lane = 0; lane < 3; lane++) {
            x.sheet(2, lane, 3);
            for (int as = 0; as < 3; as++) {
                c.due("lane " + lane + " taken as " + as, x.read(2, as, 0), as == lane ? 0 : CAST);
            }
            for (int i : Check.outside(0, 2)) {
                c.due("INDEX " + i + ", write", x.write(2, i, 0), INDEX);
                c.due("INDEX " + i + ", read", x.read(2, lane, i), INDEX);
            }
        }
    }

    private static void sheet() {
        c.sentence(32, "A SHEET is a new row of CELLS 0: 1. BAD: also n above 256; -10 - 4.");
        for (int lane = 0; lane < 3; lane++) {
            BankStore x = oneCell();
            x.sheet(0, lane, 4);
            for (int i = 0; i < 4; i++) {
                x.write(0, i, 9);
            }
            c.due("BAD: 257", x.sheet(0, lane, 257), BAD);
            c.due("BAD: MAX", x.sheet(0, lane, MAX), BAD);
            c.due("SIZE: -1", x.sheet(0, lane, -1), SIZE);
            c.due("SIZE: MIN", x.sheet(0, (lane + 1) % 3, MIN), SIZE);
            c.due("BAD: another lane, 257", x.sheet(0, (lane + 1) % 3, 257), BAD);
            c.due("refused: CELLS stay", x.count(10), 4);
            c.due("refused: the lane stays, and what is in CELL 3", x.read(0, lane, 3), 1);
            c.due("refused: CELL 3", x.cell(0, 0, 2), 9);
            c.due("anew, of the same size", x.sheet(0, lane, 4), 1);
            for (int i = 0; i < 4; i++) {
                x.lay(0, 0, 3);
                c.due("anew, CELL " + i, x.read(0, lane, i), 1);
                c.due("anew, CELL " + i + " is 0", x.cell(0, 0, 2), 0);
            }
            x.write(0, 3, 9);
            x.sheet(0, lane, 2);
            x.sheet(0, lane, 4);
            c.due("smaller, then greater: CELL 3 is 0", x.read(0, lane, 3) + x.cell(0, 0, 2), 0);
            c.due("BAD comes ahead of SIZE: k", x.sheet(4, lane, -1), BAD);
            c.due("BAD comes ahead of SIZE: k", x.sheet(-1, lane, MIN), BAD);
            c.due("BAD comes ahead of SIZE: lane", x.sheet(0, 3, -1), BAD);
            c.due("BAD comes ahead of SIZE: lane", x.sheet(0, -1, MIN), BAD);
        }
        BankStore x = new BankStore();
        c.due("none of them: SHEET 0 is nothing", x.sheet(0, 0, -1) + x.count(10), SIZE + NONE);
        c.due("of no CELLS", x.sheet(0, 2, 0), 1);
        c.due("of no CELLS is not nothing", x.count(10), 0);
        c.due("of no CELLS: INDEX, not NULL", x.write(0, 0, 0), INDEX);
        c.due("of no CELLS: CAST is met first", x.read(0, 1, 0), CAST);
        c.due("of no CELLS: INDEX, read", x.read(0, 2, 0), INDEX);
    }

    /** What a CELL of a lane holds of v, if it is a BANK; else what the read answers. */
    private static int held(int lane, int v) {
        BankStore x = oneCell();
        x.sheet(3, lane, 1);
        c.due("write " + v + " in lane " + lane, x.write(3, 0, v), 1);
        int answer = x.read(3, lane, 0);
        return answer < 0 ? answer : x.cell(0, 0, 2);
    }

    private static void write() {
        c.sentence(33, "CELL i of a SHEET becomes v (its lowest bits): 1. BAD: k; -10 less the FAULT: NULL, INDEX.");
        int[] bits = {8, 16, 32};
        for (int lane = 0; lane < 3; lane++) {
            for (int v : new int[] {0, 1, 16, 17, 127, 128, 255, 256, 257, 272, 273, 32767, 32768, 65535, 65536, 65552,
                65553, 16777216 + 3, -1, -128, -129, -256, -255, -240, -32768, -65536, -65520, MIN, MIN + 16, MAX}) {
                // The lowest bits, the highest of them for the sign.
                long low = v << 32 - bits[lane] >> 32 - bits[lane];
                c.due("lane " + lane + " holds " + v, held(lane, v), low >= 0 && low <= 16 ? low : -1000);
            }
        }
        BankStore x = oneCell();
        x.sheet(1, 0, 3);
        c.due("k 4", x.write(4, 0, 0), BAD);
        c.due("k -1", x.write(-1, -1, 0), BAD);
        c.due("NULL", x.write(0, 0, 0), NULL);
        c.due("NULL comes ahead of INDEX", x.write(0, -1, 0), NULL);
        c.due("NULL comes ahead of INDEX", x.write(0, MAX, 0), NULL);
        c.due("still nothing", x.count(10), NONE);
        for (int i : Check.outside(0, 2)) {
            c.due("INDEX " + i, x.write(1, i, 7), INDEX);
        }
        for (int i = 0; i < 3; i++) {
            c.due("refused: CELL " + i + " is 0 still", x.read(1, 0, i), 0);
        }
        for (int i = 0; i < 3; i++) {
            x.write(1, i, i + 4);
        }
        for (int i = 0; i < 3; i++) {
            x.read(1, 0, i);
            c.due("CELL " + i + " has its own", x.cell(0, 0, 2), i + 4);
        }
    }

    private static void read() {
        c.sentence(34, "What is told for all CELLS of THE TABLE, row by row, is read of a SHEET taken as of a lane,"
                + " from CELL f on: how many became others.");
        for (int lane = 0; lane < 3; lane++) {
            BankStore x = new BankStore();
            x.table(3, 2);
            x.sheet(0, lane, 8);
            for (int i = 0; i < 8; i++) {
                x.write(0, i, 7 - i);
            }
            c.due("from the first CELL", x.read(0, lane, 0), 6);
            c.due("again: none became another", x.read(0, lane, 0), 0);
            c.due("up to the last CELL", x.read(0, lane, 2), 6);
            for (int k = 0; k < 6; k++) {
                c.due("row by row, CELL " + k, x.cell(k / 2, k % 2, 2), 5 - k);
            }
            x.lay(0, 0, 7);
            c.due("the first became another", x.read(0, lane, 2), 1);
            x.lay(2, 1, 7);
            c.due("the last became another", x.read(0, lane, 2), 1);
            c.due("one too far", x.read(0, lane, 3), INDEX);
        }
        BankStore all = new BankStore();
        all.table(16, 16);
        all.sheet(3, 0, 256);
        c.due("256 CELLS, none became another", all.read(3, 0, 0), 0);
        for (int i = 0; i < 256; i++) {
            all.write(3, i, 1 + i % 7);
        }
        c.due("256 CELLS, all became others", all.read(3, 0, 0), 256);
        c.due("the last", all.cell(15, 15, 2), 1 + 255 % 7);
        c.due("256 CELLS from 1 on", all.read(3, 0, 1), INDEX);
    }

    private static void readFaults() {
        c.sentence(34, "BAD: k, lane; -10 less the FAULT: NULL, CAST, then CELL by CELL INDEX;");
        BankStore x = new BankStore();
        x.table(2, 2);
        x.sheet(1, 1, 5);
        for (int k : Check.outside(0, 3)) {
            c.due("k " + k, x.read(k, 0, 0), BAD);
        }
        for (int lane : Check.outside(0, 2)) {
            c.due("lane " + lane, x.read(1, lane, 0), BAD);
            c.due("lane " + lane + ": BAD comes ahead of NULL", x.read(0, lane, 0), BAD);
        }
        c.due("NULL comes ahead of INDEX", x.read(0, 0, -1), NULL);
        c.due("NULL, whatever the lane", x.read(0, 2, MAX), NULL);
        c.due("CAST comes ahead of INDEX", x.read(1, 0, -1), CAST);
        c.due("CAST comes ahead of INDEX", x.read(1, 2, MAX), CAST);
        c.due("from 0", x.read(1, 1, 0), 0);
        c.due("from 1, up to the last", x.read(1, 1, 1), 0);
        c.due("from 2, the last CELL is behind", x.read(1, 1, 2), INDEX);
        c.due("from -1, the first CELL is ahead", x.read(1, 1, -1), INDEX);
        for (int f : Check.outside(0, 1)) {
            c.due("from " + f, x.read(1, 1, f), INDEX);
        }
        for (int f = MAX - 4; f != MIN + 5; f++) {
            c.due("where f + c comes round, from " + f, x.read(1, 1, f), INDEX);
        }
        c.due("where f + c comes up to 0", x.read(1, 1, -4), INDEX);
        x.table(16, 16);
        x.sheet(1, 1, 255);
        c.due("255 CELLS for 256", x.read(1, 1, 0), INDEX);
    }

    private static void noBank() {
        c.sentence(34, "-1000 less c: CELL f + c is no BANK; the first met: then none changed.");
        for (int m = 1; m <= 17; m++) {
            BankStore x = oneCell();
            x.banks(m);
            x.sheet(0, 2, 3);
            x.write(0, 0, m - 1);
            x.write(0, 1, m);
            x.write(0, 2, -1);
            c.due("the last of " + m, x.read(0, 2, 0), m == 1 ? 0 : 1);
            c.due("M itself, of " + m, x.read(0, 2, 1), -1000);
            c.due("below 0, of " + m, x.read(0, 2, 2), -1000);
            c.due("none changed, of " + m, x.cell(0, 0, 2), m - 1);
        }
        BankStore x = Check.laid(2, 3, 4, 3, 2, 1, 0, 1, 2);
        x.sheet(0, 0, 7);
        for (int c0 = 0; c0 < 7; c0++) {
            x.write(0, c0, 4);
            for (int f = 0; f < 2; f++) {
                boolean met = c0 >= f && c0 < f + 6;
                if (met) {
                    c.due("CELL " + c0 + " from " + f, x.read(0, 0, f), -1000 - (c0 - f));
                }
            }
            x.write(0, c0, 0);
        }
        x.write(0, 3, 4);
        x.write(0, 5, 9);
        c.due("the first of two", x.read(0, 0, 0), -1003);
        c.due("ahead of INDEX", x.read(0, 0, 3), -1000);
        c.due("ahead of INDEX", x.read(0, 0, 2), -1001);
        c.due("behind the last of those, INDEX", x.read(0, 0, 6), INDEX);
        c.due("INDEX ahead of it", x.read(0, 0, -1), INDEX);
        int[] told = {3, 2, 1, 0, 1, 2};
        for (int k = 0; k < 6; k++) {
            c.due("none changed, CELL " + k, x.cell(k / 3, k % 3, 2), told[k]);
        }
        BankStore all = new BankStore();
        all.table(16, 16);
        all.sheet(0, 0, 256);
        all.write(0, 0, 1);
        all.write(0, 255, 8);
        c.due("the last of 256", all.read(0, 0, 0), -1255);
        c.due("none changed", all.cell(0, 0, 2), 0);
    }
}
