/** FREE LAYINGS at the bounds of the search, found by long searches over TABLES and WISHES. */
final class Layings {
    private Layings() {
    }

    private static BankStore with(int h, int w, int m, int[]... wishes) {
        BankStore x = new BankStore();
        x.table(h, w);
        x.banks(m);
        for (int[] wish : wishes) {
            x.wish(wish[0], wish[1], wish[2]);
        }
        return x;
    }

    /** The 20000th TRY lays its last CELL. */
    static BankStore takesAllTries() {
        return with(8, 8, 9, new int[][] {{4, 2, 4}, {3, 5, 1}, {0, 5, 1}, {1, 4, 1}});
    }

    /** The 20001st would. */
    static BankStore takesOneMore() {
        return with(6, 5, 3, new int[][] {{0, 2, 2}, {1, 2, 3}, {0, 2, 3}, {3, 2, 3}});
    }

    /** The 19999th TRY shows that there is none. */
    static BankStore noneJustInTime() {
        return with(4, 6, 3, new int[][] {{3, 2, 1}, {1, 2, 2}, {2, 2, 1}, {2, 4, 1}});
    }

    /** Only some CELLS of rows 0 and 3 may share a BANK, three pairs of the 20 at most. */
    static BankStore needs17() {
        return with(4, 5, 8, new int[][] {{4, 3, 5}, {4, 4, 3}, {2, 2, 3}});
    }
}
