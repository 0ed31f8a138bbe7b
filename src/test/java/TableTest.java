/** Promises 1 to 7 and 35: a new object, THE TABLE, BANKS and LAWS. */
public final class TableTest {
    private static final Check c = new Check();
    private static final int MIN = Integer.MIN_VALUE, MAX = Integer.MAX_VALUE;
    private static final int BAD = BankStore.BAD, NONE = BankStore.NONE;

    public static void main(String[] args) {
        newObject();
        table();
        banks();
        law();
        lay();
        cell();
        bank();
        count();
        c.finish();
    }

    private static void newObject() {
        c.promise(1);
        BankStore x = new BankStore();
        int[] first = {8, 8, 8, 0, 0, 1, 0, 4, 0, 0, NONE};
        for (int what = 0; what < first.length; what++) {
            c.due("count(" + what + ")", x.count(what), first[what]);
        }
        for (int i = 0; i < 8; i++) {
            for (int j = 0; j < 8; j++) {
                c.due("cell " + i + " " + j, x.cell(i, j, 0), j);
                c.due("told " + i + " " + j, x.cell(i, j, 2), 0);
            }
        }
        c.due("fault()", x.fault(), 0);
        c.due("granted()", x.granted(), 0);
        c.due("forget()", x.forget(), 0);
        c.due("line(0, 0)", x.line(0, 0), BAD);
        c.due("time", x.time(64, false, NONE), 0);
        c.due("end(0)", x.end(0), 0);
        for (int k = 0; k < 4; k++) {
            c.due("write to nothing", x.write(k, 0, 0), -11);
        }
        BankStore other = new BankStore();
        x.lay(0, 0, 3);
        x.rest(2);
        c.due("objects are apart", other.cell(0, 0, 2), 0);
        c.due("objects are apart", other.count(7), 4);
    }

    private static void table() {
        c.promise(2);
        BankStore x = new BankStore();
        int[] bad = {0, -1, 17, MIN, MAX};
        x.lay(7, 7, 5);
        for (int v : bad) {
            c.due("table(" + v + ", 4)", x.table(v, 4), BAD);
            c.due("table(4, " + v + ")", x.table(4, v), BAD);
        }
        c.due("refused: rows stay", x.count(0), 8);
        c.due("refused: columns stay", x.count(1), 8);
        c.due("refused: told stays", x.cell(7, 7, 2), 5);
        c.due("table(8, 8)", x.table(8, 8), 1);
        c.due("told becomes 0", x.cell(7, 7, 2), 0);
        c.due("table(1, 16)", x.table(1, 16), 1);
        c.due("count(0)", x.count(0), 1);
        c.due("count(1)", x.count(1), 16);
        c.due("cell(0, 15, 0)", x.cell(0, 15, 0), 7);
        c.due("cell(1, 0, 0)", x.cell(1, 0, 0), BAD);
        x.lay(0, 15, 4);
        c.due("table(16, 1)", x.table(16, 1), 1);
        c.due("cell(15, 0, 0)", x.cell(15, 0, 0), 0);
        c.due("cell(0, 1, 0)", x.cell(0, 1, 0), BAD);
        x.table(16, 16);
        c.due("told becomes 0 outside too", x.cell(0, 15, 2), 0);
        x.banks(3);
        x.law(1, 2, 5);
        x.wish(0, 2, 1);
        x.rest(9);
        x.table(2, 2);
        c.due("BANKS stay", x.count(2), 3);
        c.due("LAW stays", x.count(3), 1);
        c.due("a stays", x.count(4), 2);
        c.due("b stays", x.count(5), 5);
        c.due("WISHES stay", x.count(6), 1);
        c.due("REST stays", x.count(7), 9);
    }

    private static void banks() {
        c.promise(3);
        BankStore x = new BankStore();
        x.lay(3, 4, 7);
        for (int v : new int[] {0, -1, 18, MIN, MAX}) {
            c.due("banks(" + v + ")", x.banks(v), BAD);
        }
        c.due("refused: M stays", x.count(2), 8);
        c.due("refused: told stays", x.cell(3, 4, 2), 7);
        c.due("banks(8)", x.banks(8), 8);
        c.due("told becomes 0", x.cell(3, 4, 2), 0);
        c.due("banks(17)", x.banks(17), 8);
        c.due("banks(1)", x.banks(1), 17);
        c.due("cell(5, 7, 0)", x.cell(5, 7, 0), 0);
        c.due("banks(5)", x.banks(5), 1);
        c.due("cell(5, 7, 0)", x.cell(5, 7, 0), 2);
        c.due("count(2)", x.count(2), 5);
    }

    private static void law() {
        c.promise(4);
        BankStore x = new BankStore();
        c.due("law(1, 16, 0)", x.law(1, 16, 0), 0);
        c.due("law(0, 0, 16)", x.law(0, 0, 16), 1);
        c.due("law(2, ..)", x.law(2, MIN, 99), 0);
        c.due("a stays", x.count(4), 0);
        c.due("b stays", x.count(5), 16);
        c.due("law(2, 3, 3)", x.law(2, 3, 3), 2);
        c.due("a stays", x.count(4), 0);
        c.due("law(0, 5, 6)", x.law(0, 5, 6), 2);
        for (int v : new int[] {-1, 17, MIN, MAX}) {
            c.due("law(0, " + v + ", 1)", x.law(0, v, 1), BAD);
            c.due("law(1, 1, " + v + ")", x.law(1, 1, v), BAD);
        }
        for (int v : new int[] {-1, 3, MIN, MAX}) {
            c.due("law(" + v + ", 1, 1)", x.law(v, 1, 1), BAD);
        }
        c.due("refused: sort stays", x.count(3), 0);
        c.due("refused: a stays", x.count(4), 5);
        c.due("refused: b stays", x.count(5), 6);
        x.lay(1, 1, 4);
        x.law(1, 1, 1);
        c.due("told stays", x.cell(1, 1, 2), 4);
    }

    private static void lay() {
        c.promise(5);
        BankStore x = new BankStore();
        x.table(3, 4);
        x.banks(5);
        c.due("lay(2, 3, 4)", x.lay(2, 3, 4), 0);
        c.due("lay(2, 3, 1)", x.lay(2, 3, 1), 4);
        c.due("lay(2, 3, 0)", x.lay(2, 3, 0), 1);
        c.due("lay(0, 3, 2)", x.lay(0, 3, 2), 0);
        c.due("lay(3, 0, 1)", x.lay(3, 0, 1), BAD);
        c.due("lay(0, 4, 1)", x.lay(0, 4, 1), BAD);
        c.due("lay(-1, 0, 1)", x.lay(-1, 0, 1), BAD);
        c.due("lay(0, -1, 1)", x.lay(0, -1, 1), BAD);
        c.due("lay(MAX, MAX, 1)", x.lay(MAX, MAX, 1), BAD);
        c.due("lay(MIN, MIN, 1)", x.lay(MIN, MIN, 1), BAD);
        c.due("lay(0, 0, 5)", x.lay(0, 0, 5), BAD);
        c.due("lay(0, 0, -1)", x.lay(0, 0, -1), BAD);
        c.due("refused: stays", x.cell(0, 0, 2), 0);
        c.due("law 0 is not touched", x.cell(0, 3, 0), 3);
        x.law(2, 0, 0);
        c.due("law 2 has it", x.cell(0, 3, 0), 2);
        c.due("law 2, another", x.cell(1, 3, 0), 0);
    }

    private static void cell() {
        c.promise(6);
        BankStore x = new BankStore();
        x.table(16, 16);
        x.banks(17);
        x.law(0, 16, 16);
        c.due("480 modulo 17", x.cell(15, 15, 0), 4);
        x.law(1, 5, 3);
        c.due("15 xor 12", x.cell(3, 4, 0), 3);
        c.due("75 xor 45", x.cell(15, 15, 0), 102 % 17);
        c.due("5 xor 0", x.cell(1, 0, 0), 5);
        x.law(1, 3, 5);
        c.due("3 xor 0", x.cell(1, 0, 0), 3);
        c.due("0 xor 5", x.cell(0, 1, 0), 5);
        x.table(3, 3);
        x.banks(2);
        x.law(0, 1, 1);
        int[] places = {0, 0, 1, 1, 2, 2, 3, 3, 4};
        for (int k = 0; k < 9; k++) {
            c.due("place of " + k, x.cell(k / 3, k % 3, 1), places[k]);
        }
        x.law(2, 0, 0);
        x.lay(1, 0, 1);
        c.due("place, told", x.cell(1, 0, 1), 0);
        c.due("place, told", x.cell(1, 1, 1), 3);
        c.due("place, told", x.cell(2, 2, 1), 7);
        for (int what : new int[] {-1, 3, MIN, MAX}) {
            c.due("cell(0, 0, " + what + ")", x.cell(0, 0, what), BAD);
        }
        for (int v : new int[] {-1, 3, MIN, MAX}) {
            c.due("cell(" + v + ", 0, 0)", x.cell(v, 0, 0), BAD);
            c.due("cell(0, " + v + ", 1)", x.cell(0, v, 1), BAD);
            c.due("cell(0, " + v + ", 2)", x.cell(0, v, 2), BAD);
        }
    }

    private static void bank() {
        c.promise(7);
        BankStore x = new BankStore();
        c.due("the first CELL", x.bank(0, 1), 0);
        c.due("not behind the last row", x.bank(0, 2), 112);
        x.table(3, 5);
        x.banks(7);
        c.due("bank(4, 0)", x.bank(4, 0), 3);
        c.due("bank(4, 1)", x.bank(4, 1), 4);
        c.due("bank(4, 2)", x.bank(4, 2), 36);
        c.due("bank(5, 0)", x.bank(5, 0), 0);
        c.due("bank(5, 1)", x.bank(5, 1), NONE);
        c.due("bank(6, 2)", x.bank(6, 2), NONE);
        x.law(0, 1, 0);
        c.due("row 3 would be the first", x.bank(3, 1), NONE);
        c.due("row 3 would be the last", x.bank(3, 2), NONE);
        x.law(0, 3, 0);
        c.due("bank(3, 1)", x.bank(3, 1), 16);
        c.due("bank(3, 2)", x.bank(3, 2), 20);
        x.law(2, 0, 0);
        x.lay(1, 2, 6);
        c.due("bank(0, 0)", x.bank(0, 0), 14);
        c.due("bank(6, 1)", x.bank(6, 1), 18);
        c.due("bank(6, 2)", x.bank(6, 2), 18);
        x.lay(0, 0, 5);
        c.due("only the first CELL", x.bank(5, 1), 0);
        c.due("only the first CELL", x.bank(5, 2), 0);
        for (int v : new int[] {-1, 7, MIN, MAX}) {
            c.due("bank(" + v + ", 0)", x.bank(v, 0), BAD);
        }
        for (int what : new int[] {-1, 3, MIN, MAX}) {
            c.due("bank(0, " + what + ")", x.bank(0, what), BAD);
        }
    }

    private static void count() {
        c.promise(35);
        BankStore x = new BankStore();
        x.table(5, 6);
        x.banks(7);
        x.law(1, 2, 3);
        x.wish(0, 1, 1);
        x.wish(0, 1, 1);
        x.rest(11);
        Check.program(x, "load a 0 1;load b 0 1;add c a b;");
        x.feed(0);
        x.sheet(0, 1, 9);
        int[] want = {5, 6, 7, 1, 2, 3, 2, 11, 3, 8, 9};
        for (int what = 0; what < want.length; what++) {
            c.due("count(" + what + ")", x.count(what), want[what]);
        }
        x.sheet(0, 2, 0);
        c.due("count(10) of no CELLS", x.count(10), 0);
        BankStore y = new BankStore();
        y.sheet(1, 0, 3);
        c.due("count(10) looks at SHEET 0", y.count(10), NONE);
        for (int what : new int[] {-1, 11, MIN, MAX}) {
            c.due("count(" + what + ")", x.count(what), BAD);
        }
    }
}
