import java.util.Random;

/** The boundary cases of STREAMS and their RATE, sentence by sentence: Terms, promises 17 to 22. */
public final class StreamsEdgesTest {
    private static final Check c = new Check();
    private static final int BAD = BankStore.BAD, SPENT = BankStore.SPENT;

    public static void main(String[] args) {
        addresses();
        rests();
        asks();
        order();
        allDone();
        takes();
        comes();
        queuesDone();
        rateOfWhat();
        roundsOfWhat();
        comesBack();
        notIn64();
        rest();
        inOrder();
        beat();
        queued();
        rate();
        steps();
        c.finish();
    }

    /** A TABLE of one row; CELL j is told its BANK. */
    private static BankStore row(int m, int r, int... told) {
        BankStore x = Check.laid(1, told.length, m, told);
        x.rest(r);
        return x;
    }

    private static BankStore oneBank(int r) {
        BankStore x = new BankStore();
        x.banks(1);
        x.rest(r);
        return x;
    }

    private static void addresses() {
        c.sentence(0, "ASKS go to addresses; an address is modulo h w that of a CELL, row by row.");
        // All in BANK 0 but one CELL: two asks, one apart, go in beats 0 and 1 if just one of them is that CELL.
        for (int own : new int[] {0, 4, 5, 9, 14}) {
            BankStore x = new BankStore();
            x.table(3, 5);
            x.law(2, 0, 0);
            x.lay(own / 5, own % 5, 1);
            for (int from = 0; from < 32; from++) {
                boolean met = from % 15 == own || (from + 1) % 15 == own;
                c.due("CELL " + own + " from " + from, x.beat(from, 1, 1), met ? 1 : 4);
            }
            for (int from : new int[] {989, 990, 994, 995, 998, 999}) {
                boolean met = from % 15 == own || (from + 1) % 15 == own;
                c.due("CELL " + own + " from " + from, x.beat(from, 1, 1), met ? 1 : 4);
            }
        }
        BankStore one = new BankStore();
        one.table(1, 1);
        c.due("one CELL is all addresses", one.beat(999, 99, 199), 4 * 199);
        // The last address of all, 999 + 199 times 99, is modulo 256 that of CELL 220; no ask ahead meets it.
        BankStore all = new BankStore();
        all.table(16, 16);
        all.law(2, 0, 0);
        all.lay(13, 12, 7);
        c.due("the last but one address", all.beat(999, 99, 198), 4 * 198);
        c.due("the last address", all.beat(999, 99, 199), 4 * 198 + 1);
    }

    private static void rests() {
        c.sentence(0, "A BANK that is asked in beat t can be asked again in beat t + REST (1 to 12; 4 at first) and"
                + " not ahead.");
        c.due("at first", Check.laid(1, 1, 1).beat(0, 1, 1), 4);
        for (int r = 1; r <= 12; r++) {
            BankStore x = row(17, r, 16, 16, 3);
            c.due("at once again, REST " + r, x.beat(0, 1, 1), r);
            BankStore y = row(12, r, 0, 1, 2, 3, 4, 5, 6, 7, 8, 9, 10, 11);
            c.due("again after 12 others, REST " + r, y.beat(0, 1, 12), 12);
            BankStore z = row(17, r, 0, 1, 2, 3, 4, 5, 6, 7, 8, 9, 10);
            c.due("again after 11 others, REST " + r, z.beat(0, 1, 11), Math.max(11, r));
        }
    }

    private static void asks() {
        c.sentence(0, "STREAM of n asks (1 to 200) from an address on by steps s (address k: from + k s):");
        BankStore x = row(3, 5, 0, 1, 2, 0);
        c.due("one ask", x.inOrder(0, 1, 1), 5);
        c.due("two asks", x.inOrder(0, 1, 2), 6);
        c.due("steps 3 are from CELL 0 to CELL 3", x.inOrder(0, 3, 2), 10);
        c.due("from 3 by 1 comes round to CELL 0", x.inOrder(3, 1, 2), 10);
        c.due("from 2 by 1 does not yet", x.inOrder(2, 1, 2), 6);
        c.due("200 asks", oneBank(12).inOrder(0, 1, 200), 2400);
        c.due("200 asks by queues", oneBank(12).queued(0, 1, 200, 8, 0), 2401);
        for (int n : Check.outside(1, 200)) {
            c.due("in order, n " + n, x.inOrder(0, 1, n), BAD);
            c.due("by queues, n " + n, x.queued(0, 1, n, 1, 0), BAD);
        }
    }

    private static void order() {
        c.sentence(0, "IN ORDER: each ask goes in the first beat behind the one ahead in which its BANK can be"
                + " asked (the first in beat 0 or later);");
        BankStore x = row(3, 6, 0, 0, 1, 2, 1);
        int[] beats = {0, 6, 7, 8, 13, 14, 20};
        for (int k = 0; k < beats.length; k++) {
            c.due("ask " + k, x.beat(0, 1, k), beats[k]);
        }
        c.due("the first, of a BANK that was asked by another STREAM", x.beat(0, 1, 0), 0);
        BankStore y = row(17, 1, 5, 5);
        c.due("never two in a beat", y.beat(0, 1, 199), 199);
    }

    private static void allDone() {
        c.sentence(0, "all is done REST behind the last.");
        for (int r = 1; r <= 12; r++) {
            BankStore x = row(17, r, 0, 1, 2, 3, 4, 5, 6, 7, 8, 9, 10, 11, 12);
            c.due("one, REST " + r, x.inOrder(0, 1, 1), r);
            c.due("13, REST " + r, x.inOrder(0, 1, 13), 12 + r);
        }
    }

    private static void takes() {
        c.sentence(0, "By QUEUES of q places (1 to 8): in each beat first each BANK that can be asked takes the"
                + " first ask of its QUEUE, if there is one;");
        BankStore x = row(2, 1, 0, 0, 0, 1);
        c.due("one ask comes in beat 0, is taken in 1", x.queued(0, 1, 1, 1, 0), 2);
        // With REST 1 the place that an ask leaves is free in the same beat.
        c.due("one place is enough", x.queued(0, 1, 200, 1, 1), 0);
        c.due("one place is enough: done", x.queued(0, 1, 200, 1, 0), 201);
        // Two BANKS take in one beat: with REST 3 BANK 0 takes in 1, 4 and 7, BANK 1 in 4.
        BankStore y = row(2, 3, 0, 0, 0, 1);
        c.due("two BANKS in one beat", y.queued(0, 1, 4, 8, 0), 10);
        for (int q = 1; q <= 8; q++) {
            BankStore z = oneBank(12);
            c.due("places " + q + ": done", z.queued(0, 1, 200, q, 0), 1 + 12 * 200);
            // Ask a comes in beat 1 + 12 (a - q) once the QUEUE is full.
            c.due("places " + q + ": waits", z.queued(0, 1, 200, q, 1), 1 + 12 * (199 - q) - 199);
            c.due("places " + q + ": most", z.queued(0, 1, 200, q, 2), q);
        }
        BankStore all = row(17, 12, 16, 1, 2, 3, 4, 5, 6, 7, 8, 9, 10, 11, 12, 13, 14, 0);
        c.due("each of 17 BANKS takes its own", all.queued(0, 1, 16, 1, 0), 16 + 12);
        c.due("each of 17 BANKS takes its own: most", all.queued(0, 1, 16, 8, 2), 1);
        for (int q : Check.outside(1, 8)) {
            c.due("q " + q, x.queued(0, 1, 1, q, 0), BAD);
        }
    }

    private static void comes() {
        c.sentence(0, "then the next ask of the STREAM comes into the QUEUE of its BANK, if that has a place free,"
                + " else it waits (and all behind it);");
        // BANK 0 takes in 1, 6, 11. One place: asks come in 0, 1, 6 (four waits), then BANK 1's in 7, taken in 8.
        BankStore x = row(2, 5, 0, 0, 0, 1);
        c.due("one place: waits", x.queued(0, 1, 4, 1, 1), 4);
        c.due("one place: done", x.queued(0, 1, 4, 1, 0), 16);
        c.due("one place: up to the ask that waits", x.queued(0, 1, 3, 1, 1), 4);
        c.due("one place: up to the QUEUE that is full", x.queued(0, 1, 2, 1, 1), 0);
        c.due("two places: none waits", x.queued(0, 1, 4, 2, 1), 0);
        // Four asks of BANK 1 behind: they come from 7 on, one in a beat, taken in 8, 13, 18, 23.
        BankStore y = row(2, 5, 0, 0, 0, 1, 1, 1, 1);
        c.due("all behind it: done", y.queued(0, 1, 7, 2, 0), 4 + 3 * 5 + 5);
        c.due("one place, all behind it: done", y.queued(0, 1, 7, 1, 0), 8 + 3 * 5 + 5);
        // Asks 5 and 6 wait for the takes in 13 and 18: four beats each.
        c.due("one place, all behind it: waits", y.queued(0, 1, 7, 1, 1), 4 + 4 + 4);
    }

    private static void queuesDone() {
        c.sentence(0, "done: REST behind the last beat in which a BANK took one.");
        for (int r = 1; r <= 12; r++) {
            c.due("one, REST " + r, oneBank(r).queued(0, 1, 1, 1, 0), 1 + r);
            BankStore x = row(2, r, 0, 0, 1);
            // BANK 0 takes its second in 1 + REST, BANK 1 its one in 3: the later one counts.
            c.due("the last is not the last asked, REST " + r, x.queued(0, 1, 3, 8, 0), Math.max(1 + r, 3) + r);
        }
    }

    private static void rateIs(String which, BankStore x, int from, int s, int asks, int beats) {
        c.due(which + ": asks", x.rate(from, s, 0), asks);
        c.due(which + ": beats", x.rate(from, s, 1), beats);
    }

    private static void rateOfWhat() {
        c.sentence(0, "RATE of an endless STREAM in order: asks by beats in the part that comes back for ever (a"
                + " fraction).");
        for (int r = 1; r <= 12; r++) {
            rateIs("one BANK, REST " + r, oneBank(r), 0, 1, 1, r);
        }
        // The first round ends with beat 1, each one behind it 8 beats later.
        rateIs("what is ahead does not count", row(2, 8, 0, 1), 0, 1, 1, 4);
        // Rounds of nine end in beats 9, 20, 30, 41, ..: 21 beats for two of them.
        rateIs("two rounds come back", row(7, 5, 1, 0, 4, 2, 1, 6, 0, 2, 3), 0, 1, 6, 7);
    }

    private static void roundsOfWhat() {
        c.sentence(0, "It is found by rounds of as many asks as there are until an address comes back:");
        BankStore x = row(7, 5, 1, 0, 4, 2, 1, 6, 0, 2, 3);
        c.due("steps 1: nine", x.rate(0, 1, 2), 3);
        c.due("steps 10 are steps 1", x.rate(0, 10, 2), 3);
        c.due("steps 91 are steps 1", x.rate(0, 91, 2), 3);
        rateIs("steps 9: one address", x, 0, 9, 1, 5);
        rateIs("steps 99: one address", x, 8, 99, 1, 5);
        c.due("steps 99: one address, rounds", x.rate(8, 99, 2), 2);
        // Steps 3 meet CELLS 0, 3, 6: BANKS 1, 2, 0.
        rateIs("steps 3: three addresses", x, 0, 3, 3, 5);
        // The same nine BANKS at each second address of 18.
        int[] apart = new int[18];
        for (int k = 0; k < 9; k++) {
            apart[2 * k] = new int[] {1, 0, 4, 2, 1, 6, 0, 2, 3}[k];
            apart[2 * k + 1] = 5;
        }
        BankStore two = Check.laid(2, 9, 7, apart);
        two.rest(5);
        rateIs("steps 2 of 18: nine addresses", two, 0, 2, 6, 7);
        c.due("steps 2 of 18: rounds of nine", two.rate(0, 2, 2), 3);
        c.due("steps 56 of 18 are steps 2", two.rate(36, 56, 2), 3);
        BankStore one = new BankStore();
        one.table(1, 1);
        for (int s = 1; s <= 99; s += 7) {
            rateIs("one CELL, steps " + s, one, 999, s, 1, 4);
        }
        BankStore all = new BankStore();
        all.table(16, 16);
        all.banks(16);
        all.rest(12);
        rateIs("256 asks in a round", all, 999, 99, 1, 1);
    }

    private static void comesBack() {
        c.sentence(0, "when all BANKS have still to rest as long, at the end of a round, as at the end of some"
                + " round ahead;");
        c.due("nothing rests: the second round is as the first", oneBank(1).rate(0, 1, 2), 2);
        c.due("one BANK: the second as the first", oneBank(12).rate(0, 1, 2), 2);
        c.due("the third as the first", row(7, 5, 1, 0, 4, 2, 1, 6, 0, 2, 3).rate(0, 1, 2), 3);
        // Only one BANK of all 17, the first or the last, tells the rounds ahead apart.
        c.due("BANK 16 alone", row(17, 9, 16, 1, 2, 3, 16, 3, 2).rate(0, 1, 2), 4);
        c.due("BANK 0 alone", row(17, 9, 0, 1, 2, 3, 0, 3, 2).rate(0, 1, 2), 4);
        // Rounds end in beats 11, 27, 43, 59; BANK 0 has still to rest 3, 1, 0 and 0 beats, BANK 1 five, BANK 2 six.
        c.due("one beat apart is not as long", row(3, 7, 0, 2, 1, 0, 1, 2).rate(0, 1, 2), 4);
        // BANKS eight apart, of rests that would be alike if they were put together.
        c.due("BANKS 0 and 8", row(17, 12, 0, 8, 5, 0, 5, 8).rate(0, 1, 2), 6);
        c.due("BANKS 8, 0 and 15", row(17, 8, 8, 0, 15, 8, 15, 0).rate(0, 1, 2), 4);
        c.due("BANKS 7, 15 and 16", row(17, 11, 16, 7, 10, 15, 16, 7, 15, 10).rate(0, 1, 2), 6);
        c.due("the eleventh as the tenth", row(8, 12, 6, 5, 7, 6, 1, 7, 3, 1, 6, 3, 6, 3, 5).rate(0, 1, 2), 11);
    }

    /** No STREAM is known that is SPENT: long searches came to REST - 1 rounds and never to more. */
    private static void notIn64() {
        c.sentence(0, "SPENT, if not in 64 rounds.");
        int[][] longest = {{4, 3, 6, 0, 3, 4, 0, 5, 4, 1, 5, 6}, {12, 10, 13, 15, 10, 12, 15, 8, 12, 6, 8, 13},
            {2, 5, 4, 3, 5, 2, 3, 6, 2, 3, 1, 2, 5, 1, 4}};
        for (int[] told : longest) {
            c.due("eleven rounds are not SPENT", row(17, 12, told).rate(0, 1, 2), 11);
        }
        Random random = new Random(7);
        for (int k = 0; k < 2000; k++) {
            int[] told = random.ints(1 + random.nextInt(16), 0, 2 + random.nextInt(15)).toArray();
            BankStore x = row(17, 1 + random.nextInt(12), told);
            int rounds = x.rate(random.nextInt(1000), 1 + random.nextInt(99), 2);
            c.holds("a RATE is found: " + rounds, rounds >= 2 && rounds <= 64);
            c.holds("steps are not SPENT", k % 100 != 0 || x.steps(0) != SPENT);
        }
    }

    private static void rest() {
        c.sentence(17, "REST becomes r: what it was. BAD.");
        BankStore x = new BankStore();
        c.due("the same", x.rest(4), 4);
        for (int r = 1; r <= 12; r++) {
            c.due("rest(" + r + ")", x.rest(r), r == 1 ? 4 : r - 1);
            c.due("it is " + r, x.count(7), r);
        }
        for (int r : Check.outside(1, 12)) {
            c.due("rest(" + r + ")", x.rest(r), BAD);
            c.due("refused: it stays", x.count(7), 12);
        }
        c.due("12 at most: all done", x.inOrder(0, 1, 1), 12);
    }

    private static void inOrder() {
        c.sentence(18, "A STREAM in order: when all is done. BAD: from 0 to 999, s 1 to 99, n.");
        BankStore x = new BankStore();
        c.due("the least of all", x.inOrder(0, 1, 1), 4);
        c.due("the greatest of all", oneBank(12).inOrder(999, 99, 200), 2400);
        for (int from : Check.outside(0, 999)) {
            c.due("from " + from, x.inOrder(from, 1, 1), BAD);
        }
        for (int s : Check.outside(1, 99)) {
            c.due("s " + s, x.inOrder(0, s, 1), BAD);
        }
        for (int n : Check.outside(1, 200)) {
            c.due("n " + n, x.inOrder(0, 1, n), BAD);
        }
        c.due("from 999", x.inOrder(999, 1, 1), 4);
        c.due("s 99", x.inOrder(0, 99, 1), 4);
    }

    private static void beat() {
        c.sentence(19, "The beat in which ask k (0 to 199) of a STREAM in order goes. BAD.");
        BankStore x = oneBank(12);
        c.due("ask 0", x.beat(999, 99, 0), 0);
        c.due("ask 1", x.beat(999, 99, 1), 12);
        c.due("ask 199", x.beat(999, 99, 199), 12 * 199);
        for (int from : Check.outside(0, 999)) {
            c.due("from " + from, x.beat(from, 1, 0), BAD);
        }
        for (int s : Check.outside(1, 99)) {
            c.due("s " + s, x.beat(0, s, 0), BAD);
        }
        for (int k : Check.outside(0, 199)) {
            c.due("k " + k, x.beat(0, 1, k), BAD);
        }
    }

    private static void queued() {
        c.sentence(20, "A STREAM by QUEUES: when all is done (what 0), how many beats an ask waited ahead of a full"
                + " QUEUE, summed (1), the most asks in one QUEUE (2). BAD.");
        BankStore x = oneBank(12);
        int[] one = {13, 0, 1};
        // Asks come in 0, 1, 2, are taken in 1, 13, 25: two at once wait in the QUEUE.
        int[] three = {37, 0, 2};
        for (int what = 0; what < 3; what++) {
            c.due("one ask, what " + what, x.queued(999, 99, 1, 8, what), one[what]);
            c.due("three asks, what " + what, x.queued(0, 1, 3, 8, what), three[what]);
        }
        c.due("nine asks fill eight places", x.queued(0, 1, 9, 8, 2), 8);
        c.due("nine asks: none waits", x.queued(0, 1, 9, 8, 1), 0);
        c.due("ten asks: the last waits from 9 to 12", x.queued(0, 1, 10, 8, 1), 4);
        for (int from : Check.outside(0, 999)) {
            c.due("from " + from, x.queued(from, 1, 1, 1, 0), BAD);
        }
        for (int s : Check.outside(1, 99)) {
            c.due("s " + s, x.queued(0, s, 1, 1, 0), BAD);
        }
        for (int n : Check.outside(1, 200)) {
            c.due("n " + n, x.queued(0, 1, n, 1, 0), BAD);
        }
        for (int q : Check.outside(1, 8)) {
            c.due("q " + q, x.queued(0, 1, 1, q, 2), BAD);
        }
        for (int what : Check.outside(0, 2)) {
            c.due("what " + what, x.queued(0, 1, 1, 1, what), BAD);
        }
    }

    private static void rate() {
        c.sentence(21, "RATE: 0 the numerator, 1 the denominator, in lowest terms, 2 rounds until it came back."
                + " BAD; SPENT.");
        BankStore x = new BankStore();
        // 64 asks in 64 beats, 8 in 8: lowest terms are 1 and 1.
        rateIs("one ask a beat", x, 0, 1, 1, 1);
        rateIs("the greatest from and s", x, 999, 99, 1, 1);
        rateIs("one BANK in eight steps", x, 0, 8, 1, 4);
        // Six asks of BANK 0 and two others: 6 REST beats for eight asks.
        rateIs("8 by 18", row(3, 3, 0, 1, 0, 0, 2, 0, 0, 0), 0, 1, 4, 9);
        for (int from : Check.outside(0, 999)) {
            c.due("from " + from, x.rate(from, 1, 0), BAD);
        }
        for (int s : Check.outside(1, 99)) {
            c.due("s " + s, x.rate(0, s, 0), BAD);
        }
        for (int what : Check.outside(0, 2)) {
            c.due("what " + what, x.rate(0, 1, what), BAD);
        }
    }

    private static void steps() {
        c.sentence(22, "Steps s of 1 to 99: how many have a RATE of 1 from address 0 on (what 0), the least RATE's"
                + " step (of several the least; 1). BAD; SPENT.");
        BankStore x = oneBank(12);
        c.due("none", x.steps(0), 0);
        c.due("all alike: the least", x.steps(1), 1);
        x.rest(1);
        c.due("all", x.steps(0), 99);
        c.due("all of RATE 1: the least", x.steps(1), 1);
        // Step 99 alone meets one CELL alone.
        BankStore last = new BankStore();
        last.table(9, 11);
        last.law(0, 1, 1);
        c.due("the last step", last.steps(1), 99);
        stepsAreAsRates("9 by 11", last);
        // Step 100 would: it is not looked at.
        BankStore behind = new BankStore();
        behind.table(10, 10);
        behind.law(0, 1, 1);
        stepsAreAsRates("10 by 10", behind);
        BankStore eleven = row(11, 2, 0, 1, 2, 3, 4, 5, 6, 7, 8, 9, 10);
        c.due("all but 11, 22, .. 99", eleven.steps(0), 90);
        c.due("the least of those", eleven.steps(1), 11);
        // From address 0 on even steps meet BANK 0 alone, from 1 on they would meet two BANKS.
        BankStore even = row(3, 2, 0, 1, 0, 2);
        c.due("from address 0 on", even.steps(0), 50);
        c.due("from address 0 on: the least", even.steps(1), 2);
        for (int what : Check.outside(0, 1)) {
            c.due("what " + what, x.steps(what), BAD);
        }
    }

    private static void stepsAreAsRates(String which, BankStore x) {
        int ones = 0;
        int least = 1;
        int[] asks = new int[100];
        int[] beats = new int[100];
        for (int s = 1; s <= 99; s++) {
            asks[s] = x.rate(0, s, 0);
            beats[s] = x.rate(0, s, 1);
            ones += asks[s] == 1 && beats[s] == 1 ? 1 : 0;
            least = asks[s] * beats[least] < asks[least] * beats[s] ? s : least;
        }
        c.due(which + ": of RATE 1", x.steps(0), ones);
        c.due(which + ": the least", x.steps(1), least);
    }
}
