/** Promises 17 to 22: STREAMS in order and by QUEUES, and the RATE that lasts. */
public final class StreamsTest {
    private static final Check c = new Check();
    private static final int MIN = Integer.MIN_VALUE, MAX = Integer.MAX_VALUE;
    private static final int BAD = BankStore.BAD;

    public static void main(String[] args) {
        rest();
        inOrder();
        beat();
        queued();
        rate();
        steps();
        c.finish();
    }

    /** A TABLE of one row whose CELLS are told as figures. */
    private static BankStore row(int m, int r, String figures) {
        BankStore x = new BankStore();
        x.table(1, figures.length());
        x.banks(m);
        x.rest(r);
        x.law(2, 0, 0);
        for (int j = 0; j < figures.length(); j++) {
            x.lay(0, j, figures.charAt(j) - '0');
        }
        return x;
    }

    private static void rest() {
        c.promise(17);
        BankStore x = new BankStore();
        c.due("rest(12)", x.rest(12), 4);
        c.due("rest(1)", x.rest(1), 12);
        for (int v : new int[] {0, -1, 13, MIN, MAX}) {
            c.due("rest(" + v + ")", x.rest(v), BAD);
        }
        c.due("count(7)", x.count(7), 1);
        c.due("rest(5)", x.rest(5), 1);
    }

    private static void inOrder() {
        c.promise(18);
        BankStore x = row(3, 3, "0012");
        // 0 at 0, 0 at 3, 1 at 4, 2 at 5, 0 at 6, 0 at 9.
        c.due("one", x.inOrder(0, 1, 1), 3);
        c.due("two", x.inOrder(0, 1, 2), 6);
        c.due("four", x.inOrder(0, 1, 4), 8);
        c.due("six", x.inOrder(0, 1, 6), 12);
        // From CELL 3 on: 2 at 0, 0 at 1, 0 at 4.
        c.due("from 7", x.inOrder(7, 1, 3), 7);
        // By steps of 3: 0 0(3) 2 1 0 0(3): 0, 2, 1, 0, 0 at 0, 1, 2, 3, 6.
        c.due("steps of 3", x.inOrder(0, 3, 5), 9);
        c.due("steps of 99 are steps of 3", x.inOrder(0, 99, 5), 9);
        x.table(3, 5);
        x.law(0, 1, 0);
        // Row by row: five asks of BANK 0, then of 1.
        c.due("rows of five", x.inOrder(0, 1, 6), 16);
        c.due("999 is CELL 9, in row 1", x.inOrder(999, 1, 2), 4);
        c.due("200 asks", new BankStore().inOrder(0, 1, 200), 203);
        wrongStreams(x);
        for (int v : new int[] {0, -1, 201, MIN, MAX}) {
            c.due("n " + v, x.inOrder(0, 1, v), BAD);
        }
    }

    private static void wrongStreams(BankStore x) {
        for (int v : new int[] {-1, 1000, MIN, MAX}) {
            c.due("inOrder from " + v, x.inOrder(v, 1, 1), BAD);
            c.due("beat from " + v, x.beat(v, 1, 1), BAD);
            c.due("queued from " + v, x.queued(v, 1, 1, 1, 0), BAD);
            c.due("rate from " + v, x.rate(v, 1, 0), BAD);
        }
        for (int v : new int[] {0, -1, 100, MIN, MAX}) {
            c.due("inOrder s " + v, x.inOrder(0, v, 1), BAD);
            c.due("beat s " + v, x.beat(0, v, 1), BAD);
            c.due("queued s " + v, x.queued(0, v, 1, 1, 0), BAD);
            c.due("rate s " + v, x.rate(0, v, 0), BAD);
        }
    }

    private static void beat() {
        c.promise(19);
        BankStore x = row(3, 3, "0012");
        int[] beats = {0, 3, 4, 5, 6, 9, 10, 11, 12};
        for (int k = 0; k < beats.length; k++) {
            c.due("beat " + k, x.beat(0, 1, k), beats[k]);
        }
        c.due("a call leaves no rest behind", x.beat(0, 1, 0), 0);
        c.due("ask 199", new BankStore().beat(0, 1, 199), 199);
        BankStore y = new BankStore();
        y.banks(1);
        y.rest(12);
        c.due("ask 199 of one BANK", y.beat(999, 99, 199), 199 * 12);
        for (int v : new int[] {-1, 200, MIN, MAX}) {
            c.due("k " + v, x.beat(0, 1, v), BAD);
        }
    }

    private static void queued() {
        c.promise(20);
        BankStore x = row(2, 3, "0001");
        // Comes in beats 0, 1, 2, 3 with room; BANK 0 takes in 1, 4, 7, BANK 1 in 4.
        c.due("room for all", x.queued(0, 1, 4, 8, 0), 10);
        c.due("room for all, waits", x.queued(0, 1, 4, 8, 1), 0);
        c.due("room for all, most", x.queued(0, 1, 4, 8, 2), 2);
        // One place: comes in 0, 1, waits in 2, 3, comes in 4, then 5; BANK 1 takes in 6, BANK 0 in 7.
        c.due("one place", x.queued(0, 1, 4, 1, 0), 10);
        c.due("one place, waits", x.queued(0, 1, 4, 1, 1), 2);
        c.due("one place, most", x.queued(0, 1, 4, 1, 2), 1);
        c.due("one ask", x.queued(3, 1, 1, 1, 0), 4);
        c.due("one ask, most", x.queued(3, 1, 1, 1, 2), 1);
        // Three asks of BANK 0, the last one comes in when there is a place: the others are behind it.
        BankStore y = row(2, 5, "0000111");
        // Comes 0, 1, 2, waits in 3, 4, 5, comes in 6, then 7, 8, 9: BANK 1 takes in 8, 13, 18; BANK 0 to 16.
        c.due("two places done", y.queued(0, 1, 7, 2, 0), 18 + 5);
        c.due("two places, waits", y.queued(0, 1, 7, 2, 1), 3);
        // Each of 16 BANKS, one of them the last of all 17, is asked once.
        BankStore all = of17(12, 0, 1, 2, 3, 4, 5, 6, 7, 8, 9, 10, 11, 12, 13, 14, 15);
        all.lay(0, 1, 16);
        c.due("17 BANKS", all.queued(0, 1, 16, 1, 0), 16 + 12);
        BankStore z = new BankStore();
        z.banks(1);
        z.rest(12);
        c.due("slowest", z.queued(0, 1, 200, 1, 0), 1 + 200 * 12);
        c.due("slowest, waits", z.queued(0, 1, 200, 1, 1), 198 * 11);
        c.due("eight places", z.queued(0, 1, 200, 8, 2), 8);
        for (int v : new int[] {0, -1, 201, MIN, MAX}) {
            c.due("n " + v, x.queued(0, 1, v, 1, 0), BAD);
        }
        for (int v : new int[] {0, -1, 9, MIN, MAX}) {
            c.due("q " + v, x.queued(0, 1, 1, v, 0), BAD);
        }
        for (int v : new int[] {-1, 3, MIN, MAX}) {
            c.due("what " + v, x.queued(0, 1, 1, 1, v), BAD);
        }
    }

    private static void rate() {
        c.promise(21);
        BankStore x = row(3, 3, "0012");
        // 0 at 0, 3; 6, 9; 12 ..: four asks in six beats.
        c.due("asks", x.rate(0, 1, 0), 2);
        c.due("beats", x.rate(0, 1, 1), 3);
        c.due("rounds", x.rate(0, 1, 2), 2);
        c.due("one address", x.rate(1, 4, 0), 1);
        c.due("one address", x.rate(1, 4, 1), 3);
        c.due("one address", x.rate(1, 4, 2), 2);
        x.rest(1);
        c.due("REST 1", x.rate(0, 1, 1), 1);
        c.due("REST 1: no round is ahead of the first", x.rate(0, 1, 2), 2);
        for (int v : new int[] {-1, 3, MIN, MAX}) {
            c.due("what " + v, x.rate(0, 1, v), BAD);
        }
        longRounds();
    }

    private static void longRounds() {
        // Rounds end in beats 9, 20, 30: the third one is as the first, so two rounds come back in 21 beats.
        BankStore x = row(7, 5, "104216023");
        c.due("two rounds, asks", x.rate(0, 1, 0), 6);
        c.due("two rounds, beats", x.rate(0, 1, 1), 7);
        c.due("two rounds", x.rate(0, 1, 2), 3);
        c.due("another round, from the middle on", x.rate(4, 1, 1), 7);
        c.due("eleven rounds", row(8, 12, "6576173163635").rate(0, 1, 2), 11);
        // 16, 1, 2, 3, 16, 3, 2: only BANK 16 has another rest at the end of rounds 1 and 2.
        BankStore y = of17(9, 16, 1, 2, 3, 16, 3, 2);
        c.due("17 BANKS, asks", y.rate(0, 1, 0), 7);
        c.due("17 BANKS, beats", y.rate(0, 1, 1), 20);
        c.due("17 BANKS, rounds", y.rate(0, 1, 2), 4);
        // Rests of BANKS that a careless packing would mix up or lose.
        c.due("BANK 0", of17(9, 0, 1, 2, 3, 0, 3, 2).rate(0, 1, 2), 4);
        c.due("BANK 15", of17(8, 15, 3, 5, 15, 5, 2, 3).rate(0, 1, 2), 3);
        c.due("BANK 15", of17(12, 15, 10, 12, 15, 12, 10, 3).rate(0, 1, 2), 6);
        c.due("BANKS 0 and 16", of17(9, 12, 16, 3, 0, 16, 0, 3).rate(0, 1, 2), 5);
        c.due("BANKS 2 and 15", of17(8, 2, 11, 15, 2, 15, 11).rate(0, 1, 2), 4);
        c.due("long rests", of17(12, 12, 11, 14, 6, 0, 12, 0, 11, 6).rate(0, 1, 2), 4);
    }

    /** A TABLE of one row, of 17 BANKS. */
    private static BankStore of17(int r, int... cells) {
        BankStore x = row(17, r, "0".repeat(cells.length));
        for (int j = 0; j < cells.length; j++) {
            x.lay(0, j, cells[j]);
        }
        return x;
    }

    private static void steps() {
        c.promise(22);
        BankStore x = new BankStore();
        x.banks(1);
        c.due("one BANK: none has 1", x.steps(0), 0);
        c.due("one BANK: all alike, the least", x.steps(1), 1);
        x.rest(1);
        c.due("REST 1: all have 1", x.steps(0), 99);
        c.due("REST 1: the least", x.steps(1), 1);
        x.banks(8);
        x.rest(2);
        // Law 0, a 0, b 1: steps that are multiples of 8 stay in one BANK.
        c.due("REST 2", x.steps(0), 99 - 12);
        c.due("REST 2", x.steps(1), 8);
        // From address 0 on even steps meet BANK 0 alone, from 1 on they would meet two.
        BankStore y = row(3, 2, "0102");
        c.due("from address 0 on", y.steps(0), 99 - 49);
        c.due("from address 0 on", y.steps(1), 2);
        for (int v : new int[] {-1, 2, MIN, MAX}) {
            c.due("what " + v, x.steps(v), BAD);
        }
    }
}
