/** Promises 32 to 34: SHEETS and the FAULTS that the machine finds. */
public final class SheetsTest {
    private static final Check c = new Check();
    private static final int MIN = Integer.MIN_VALUE, MAX = Integer.MAX_VALUE;
    private static final int BAD = BankStore.BAD, NONE = BankStore.NONE;

    public static void main(String[] args) {
        sheet();
        write();
        lowestBits();
        read();
        readRefused();
        c.finish();
    }

    private static void sheet() {
        c.promise(32);
        BankStore x = new BankStore();
        x.table(1, 1);
        for (int v : new int[] {-1, 4, MIN, MAX}) {
            c.due("k " + v, x.sheet(v, 0, 1), BAD);
            c.due("k " + v + ", BAD comes first", x.sheet(v, 0, -1), BAD);
        }
        for (int v : new int[] {-1, 3, MIN, MAX}) {
            c.due("lane " + v, x.sheet(0, v, 1), BAD);
            c.due("lane " + v + ", BAD comes first", x.sheet(0, v, -1), BAD);
        }
        c.due("n 257", x.sheet(0, 0, 257), BAD);
        c.due("n MAX", x.sheet(0, 0, MAX), BAD);
        c.due("n -1", x.sheet(0, 0, -1), -14);
        c.due("n MIN", x.sheet(0, 0, MIN), -14);
        c.due("still nothing", x.count(10), NONE);
        for (int k = 0; k < 4; k++) {
            c.due("sheet " + k, x.sheet(k, k % 3, 256), 1);
            c.due("last", x.write(k, 255, 1), 1);
            c.due("behind it", x.write(k, 256, 1), -12);
        }
        c.due("refused", x.sheet(0, 0, -1), -14);
        c.due("refused: stays", x.count(10), 256);
        c.due("refused: stays", x.read(0, 0, 255), 1);
        c.due("anew", x.sheet(0, 0, 256), 1);
        c.due("anew: CELLS 0", x.read(0, 0, 255), 1);
        c.due("anew: CELLS 0", x.cell(0, 0, 2), 0);
        c.due("of no CELLS", x.sheet(0, 0, 0), 1);
        c.due("of no CELLS", x.count(10), 0);
        c.due("of no CELLS", x.write(0, 0, 1), -12);
        c.due("of no CELLS", x.read(0, 0, 0), -12);
    }

    private static void write() {
        c.promise(33);
        BankStore x = new BankStore();
        x.sheet(1, 2, 3);
        for (int v : new int[] {-1, 4, MIN, MAX}) {
            c.due("k " + v, x.write(v, 0, 0), BAD);
        }
        c.due("nothing", x.write(0, 0, 0), -11);
        c.due("nothing comes first", x.write(0, -1, 0), -11);
        for (int v : new int[] {-1, 3, MIN, MAX}) {
            c.due("i " + v, x.write(1, v, 0), -12);
        }
        c.due("write", x.write(1, 2, MAX), 1);
        c.due("write", x.write(1, 0, MIN), 1);
    }

    private static int readBack(int lane, int v) {
        BankStore x = new BankStore();
        x.table(1, 1);
        x.banks(17);
        x.sheet(2, lane, 1);
        x.write(2, 0, v);
        int answer = x.read(2, lane, 0);
        return answer < 0 ? answer : x.cell(0, 0, 2);
    }

    private static void lowestBits() {
        c.due("byte 256 + 5", readBack(0, 261), 5);
        c.due("byte -256 + 7", readBack(0, -249), 7);
        c.due("byte 255 is below 0", readBack(0, 255), -1000);
        c.due("byte 128 is below 0", readBack(0, 128), -1000);
        c.due("byte 65536 + 16", readBack(0, 65552), 16);
        c.due("short 65536 + 5", readBack(1, 65541), 5);
        c.due("short 256 + 5", readBack(1, 261), -1000);
        c.due("short 65535 is below 0", readBack(1, 65535), -1000);
        c.due("int 65536 + 5", readBack(2, 65541), -1000);
        c.due("int 16", readBack(2, 16), 16);
        c.due("int 17", readBack(2, 17), -1000);
        c.due("int MIN", readBack(2, MIN), -1000);
    }

    private static void read() {
        c.promise(34);
        BankStore x = new BankStore();
        x.table(2, 3);
        for (int lane = 0; lane < 3; lane++) {
            x.sheet(lane, lane, 8);
            for (int i = 0; i < 8; i++) {
                x.write(lane, i, (i + lane) % 8);
            }
        }
        c.due("BYTES from 2", x.read(0, 0, 2), 6);
        for (int k = 0; k < 6; k++) {
            c.due("CELL " + k, x.cell(k / 3, k % 3, 2), k + 2);
        }
        c.due("again", x.read(0, 0, 2), 0);
        c.due("SHORTS from 1 are the same", x.read(1, 1, 1), 0);
        c.due("INTS from 1: all others", x.read(2, 2, 1), 6);
        x.write(0, 4, 1);
        x.read(0, 0, 2);
        x.lay(0, 0, 7);
        x.lay(1, 2, 0);
        c.due("two became others", x.read(0, 0, 2), 2);
        c.due("THE LAW stays", x.count(3), 0);
        x.table(16, 16);
        x.sheet(3, 0, 256);
        x.write(3, 255, 6);
        c.due("256 CELLS", x.read(3, 0, 0), 1);
        c.due("the last", x.cell(15, 15, 2), 6);
    }

    private static void readRefused() {
        BankStore x = new BankStore();
        x.table(2, 2);
        x.banks(4);
        x.sheet(1, 1, 5);
        for (int v : new int[] {-1, 4, MIN, MAX}) {
            c.due("k " + v, x.read(v, 1, 0), BAD);
        }
        for (int v : new int[] {-1, 3, MIN, MAX}) {
            c.due("lane " + v, x.read(1, v, 0), BAD);
            c.due("lane, BAD comes first", x.read(0, v, 0), BAD);
        }
        c.due("NULL", x.read(0, 0, -1), -11);
        c.due("CAST", x.read(1, 0, -1), -13);
        c.due("CAST", x.read(1, 2, 0), -13);
        for (int v : new int[] {-1, 2, 5, MIN, MAX, MAX - 1}) {
            c.due("INDEX from " + v, x.read(1, 1, v), -12);
        }
        for (int i = 0; i < 5; i++) {
            x.write(1, i, i);
        }
        c.due("fits", x.read(1, 1, 0), 3);
        c.due("CELL 4 is no BANK", x.read(1, 1, 1), -1003);
        c.due("no BANK is met ahead of INDEX", x.read(1, 1, 2), -1002);
        x.write(1, 4, 0);
        c.due("INDEX", x.read(1, 1, 2), -12);
        x.write(1, 1, -1);
        c.due("below 0 is no BANK", x.read(1, 1, 0), -1001);
        x.write(1, 0, 3);
        c.due("refused", x.read(1, 1, 0), -1001);
        for (int k = 0; k < 4; k++) {
            c.due("none changed", x.cell(k / 2, k % 2, 2), k);
        }
    }
}
