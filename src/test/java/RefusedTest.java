import java.util.ArrayList;
import java.util.Arrays;
import java.util.List;

/**
 * What is refused changes nothing: each refused call is made on an object in which all there is holds something, and
 * all that can be asked of it then is compared with the same object without that call. So are calls that only ask.
 */
public final class RefusedTest {
    private static final Check c = new Check();
    private static final int MIN = Integer.MIN_VALUE, MAX = Integer.MAX_VALUE;
    private static final int BAD = BankStore.BAD, STATE = BankStore.STATE, FULL = BankStore.FULL;
    private static final int NONE = BankStore.NONE, SPENT = BankStore.SPENT;

    private interface Call {
        int on(BankStore x);
    }

    private interface Stage {
        BankStore made();
    }

    public static void main(String[] args) {
        answers();
        firstThatFits();
        refusedTable();
        refusedCuts();
        refusedStreams();
        refusedPrograms();
        refusedSheets();
        refusedSearches();
        refusedText();
        onlyAsked();
        c.finish();
    }

    /** 4 by 4 CELLS of 5 BANKS, six WISHES, 16 lines and a FAULT, a full TAPE, three SHEETS of four CELLS. */
    private static BankStore full() {
        BankStore x = new BankStore();
        x.table(4, 4);
        x.banks(5);
        x.law(1, 3, 7);
        for (int k = 0; k < 16; k++) {
            x.lay(k / 4, k % 4, (k * 3 + 1) % 5);
        }
        for (int k = 0; k < 6; k++) {
            x.wish(k % 5, 2 + k / 5, 1 + k / 5);
        }
        x.rest(7);
        Check.program(x, "load a7 3;load b8 2;add c a b;mul d c c;store d5 6;" + "load h9 9;".repeat(11));
        Check.program(x, "load a 0 0;");
        Check.tell(x, "load a 100 10 ;load b 101 11 ;mul c  a b    ;" + "store c 102 12;".repeat(13));
        for (int k = 0; k < 3; k++) {
            x.sheet(k, k, 4);
            for (int i = 0; i < 4; i++) {
                x.write(k, i, (i + k) % 5 + (i == 3 ? 12 : 0));
            }
        }
        return x;
    }

    /** All that can be asked; what can be asked in one way alone is asked last, for it changes the object. */
    private static List<Integer> look(BankStore x) {
        List<Integer> seen = new ArrayList<>();
        for (int what = 0; what <= 10; what++) {
            seen.add(x.count(what));
        }
        int w = x.count(1);
        for (int k = 0; k < 16; k++) {
            seen.addAll(Arrays.asList(x.cell(k / w, k % w, 0), x.cell(k / w, k % w, 1), x.cell(k / w, k % w, 2)));
        }
        seen.addAll(Arrays.asList(x.bank(0, 0), x.bank(1, 1), x.bank(1, 2)));
        seen.addAll(Arrays.asList(x.time(5, true, NONE), x.time(5, false, NONE), x.inOrder(3, 5, 9)));
        lookAtLines(x, seen);
        for (int sort = 0; sort < 3; sort++) {
            x.law(sort, 1, 2);
            seen.addAll(Arrays.asList(x.granted(), x.bound()));
        }
        seen.addAll(Arrays.asList(x.program(), x.fault()));
        lookAtLines(x, seen);
        x.table(1, 1);
        x.banks(17);
        for (int k = 0; k < 4; k++) {
            for (int lane = 0; lane < 3; lane++) {
                for (int f = 0; f < 5; f++) {
                    seen.addAll(Arrays.asList(x.read(k, lane, f), x.cell(0, 0, 2)));
                }
            }
        }
        seen.add(x.forget());
        return seen;
    }

    private static void lookAtLines(BankStore x, List<Integer> seen) {
        int lines = x.count(8);
        for (int k = 0; k < lines; k++) {
            seen.add(x.line(k, 0) * 10 + x.line(k, 1));
            seen.add(x.line(k, 2) * 100 + x.line(k, 3));
        }
    }

    private static void changesNothing(String told, Stage stage, int due, Call call) {
        BankStore with = stage.made();
        BankStore without = stage.made();
        c.due(told, call.on(with), due);
        c.due(told + ", fault()", with.fault(), without.fault());
        c.due(told + ", again", call.on(with), due);
        c.holds(told + " changes nothing", look(with).equals(look(without)));
    }

    private static void refused(String told, int due, Call call) {
        changesNothing(told, RefusedTest::full, due, call);
    }

    private static void answers() {
        c.sentence(0, "Answers: BAD -1 (a number is not as told, there is no such CELL, WISH, LINE, SHEET), STATE"
                + " -2 (as told), FULL -3, NONE -4 (there is none), SPENT -6, the first that fits;");
        c.due("BAD", BankStore.BAD, -1);
        c.due("STATE", BankStore.STATE, -2);
        c.due("FULL", BankStore.FULL, -3);
        c.due("NONE", BankStore.NONE, -4);
        c.due("SPENT", BankStore.SPENT, -6);
        BankStore x = full();
        c.due("a number is not as told", x.table(0, 1), -1);
        c.due("no such CELL", x.cell(4, 0, 0), -1);
        c.due("no such LINE", x.line(16, 0), -1);
        c.due("no such SHEET", x.write(4, 0, 0), -1);
        c.due("FULL of WISHES", x.wish(0, 1, 1), -3);
        c.due("FULL TAPE", x.feed(0), -3);
        x.table(1, 1);
        c.due("there is none", x.bank(4, 1), -4);
        x.table(9, 9);
        c.due("STATE", x.free(), -2);
    }

    private static void firstThatFits() {
        BankStore x = full();
        c.due("BAD, not FULL: kind", x.wish(5, 1, 1), BAD);
        c.due("BAD, not FULL: n", x.wish(0, 0, 1), BAD);
        c.due("BAD, not FULL: m", x.wish(0, 1, 9), BAD);
        c.due("BAD, not NONE: no such BANK", x.bank(5, 1), BAD);
        c.due("BAD, not NONE: what", x.bank(4, 3), BAD);
        c.due("BAD, not NONE: no CUT there is", x.cuts(0, 16, 8, 5), BAD);
        c.due("BAD, not a SIZE", x.sheet(4, 0, -1), BAD);
        c.due("BAD, not NULL", x.read(3, 3, 0), BAD);
        x.forget();
        x.wish(4, 4, 8);
        x.table(9, 8);
        c.due("BAD, not NONE: sort", x.fewest(2, 0), BAD);
        c.due("BAD, not NONE: what", x.fewest(0, 4), BAD);
        c.due("NONE", x.fewest(0, 0), NONE);
        c.due("STATE, not NONE", x.free(), STATE);
        c.due("STATE, not NONE", x.freeBanks(), STATE);
    }

    private static void refusedTable() {
        c.sentence(0, "what is refused changes nothing (but THE TAPE, as told).");
        for (int v : Check.outside(1, 16)) {
            refused("table(" + v + ", 3)", BAD, x -> x.table(v, 3));
            refused("table(3, " + v + ")", BAD, x -> x.table(3, v));
        }
        for (int v : Check.outside(1, 17)) {
            refused("banks(" + v + ")", BAD, x -> x.banks(v));
        }
        for (int v : Check.outside(0, 2)) {
            refused("law(" + v + ", 2, 2)", BAD, x -> x.law(v, 2, 2));
            refused("cell(1, 1, " + v + ")", BAD, x -> x.cell(1, 1, v));
            refused("bank(1, " + v + ")", BAD, x -> x.bank(1, v));
        }
        for (int v : Check.outside(0, 16)) {
            for (int sort = 0; sort < 2; sort++) {
                int law = sort;
                refused("law(" + law + ", " + v + ", 2)", BAD, x -> x.law(law, v, 2));
                refused("law(" + law + ", 2, " + v + ")", BAD, x -> x.law(law, 2, v));
            }
        }
        for (int v : Check.outside(0, 3)) {
            refused("lay(" + v + ", 1, 2)", BAD, x -> x.lay(v, 1, 2));
            refused("lay(1, " + v + ", 2)", BAD, x -> x.lay(1, v, 2));
            refused("cell(" + v + ", 1, 0)", BAD, x -> x.cell(v, 1, 0));
            refused("cell(1, " + v + ", 1)", BAD, x -> x.cell(1, v, 1));
        }
        for (int v : Check.outside(0, 4)) {
            refused("lay(1, 1, " + v + ")", BAD, x -> x.lay(1, 1, v));
            refused("bank(" + v + ", 0)", BAD, x -> x.bank(v, 0));
        }
        for (int v : Check.outside(0, 10)) {
            refused("count(" + v + ")", BAD, x -> x.count(v));
        }
    }

    private static void refusedCuts() {
        for (int v : Check.outside(0, 4)) {
            refused("cut of kind " + v, BAD, x -> x.cut(v, 1, 1, 0, 0));
            refused("cuts of kind " + v, BAD, x -> x.cuts(v, 1, 1, 0));
            refused("cuts, what " + v, BAD, x -> x.cuts(0, 1, 1, v));
            refused("wish of kind " + v, BAD, x -> x.wish(v, 1, 1));
        }
        for (int v : Check.outside(1, 16)) {
            refused("cut, n " + v, BAD, x -> x.cut(0, v, 1, 0, 0));
            refused("cuts, n " + v, BAD, x -> x.cuts(0, v, 1, 0));
            refused("wish, n " + v, BAD, x -> x.wish(0, v, 1));
        }
        for (int v : Check.outside(1, 8)) {
            refused("cut, m " + v, BAD, x -> x.cut(0, 1, v, 0, 0));
            refused("cuts, m " + v, BAD, x -> x.cuts(0, 1, v, 0));
            refused("wish, m " + v, BAD, x -> x.wish(0, 1, v));
        }
        refused("cut that is not there", BAD, x -> x.cut(2, 3, 2, 0, 0));
        refused("a seventh wish", FULL, x -> x.wish(0, 3, 1));
        for (int v : Check.outside(0, 1)) {
            refused("fewest, sort " + v, BAD, x -> x.fewest(v, 0));
        }
        for (int v : Check.outside(0, 3)) {
            refused("fewest, what " + v, BAD, x -> x.fewest(0, v));
        }
    }

    private static void refusedStreams() {
        for (int v : Check.outside(1, 12)) {
            refused("rest(" + v + ")", BAD, x -> x.rest(v));
        }
        for (int v : Check.outside(0, 999)) {
            refused("inOrder from " + v, BAD, x -> x.inOrder(v, 1, 1));
            refused("beat from " + v, BAD, x -> x.beat(v, 1, 1));
            refused("queued from " + v, BAD, x -> x.queued(v, 1, 1, 1, 0));
            refused("rate from " + v, BAD, x -> x.rate(v, 1, 0));
        }
        for (int v : Check.outside(1, 99)) {
            refused("inOrder by " + v, BAD, x -> x.inOrder(0, v, 1));
            refused("beat by " + v, BAD, x -> x.beat(0, v, 1));
            refused("queued by " + v, BAD, x -> x.queued(0, v, 1, 1, 0));
            refused("rate by " + v, BAD, x -> x.rate(0, v, 0));
        }
        for (int v : Check.outside(1, 200)) {
            refused("inOrder, n " + v, BAD, x -> x.inOrder(0, 1, v));
            refused("queued, n " + v, BAD, x -> x.queued(0, 1, v, 1, 0));
        }
        for (int v : Check.outside(0, 199)) {
            refused("beat, k " + v, BAD, x -> x.beat(0, 1, v));
        }
        for (int v : Check.outside(1, 8)) {
            refused("queued, q " + v, BAD, x -> x.queued(0, 1, 1, v, 0));
        }
        for (int v : Check.outside(0, 2)) {
            refused("queued, what " + v, BAD, x -> x.queued(0, 1, 1, 1, v));
            refused("rate, what " + v, BAD, x -> x.rate(0, 1, v));
        }
        for (int v : Check.outside(0, 1)) {
            refused("steps(" + v + ")", BAD, x -> x.steps(v));
        }
    }

    private static void refusedPrograms() {
        refused("feed of a full TAPE", FULL, x -> x.feed(-1));
        for (int v : Check.outside(0, 240)) {
            refused("end(" + v + ")", BAD, x -> x.end(v));
        }
        for (int v : Check.outside(0, 15)) {
            refused("line(" + v + ", 0)", BAD, x -> x.line(v, 0));
            refused("time of LINE " + v, BAD, x -> x.time(3, true, v));
            refused("when of LINE " + v, BAD, x -> x.when(3, true, v, 0, 0));
        }
        for (int v : Check.outside(0, 3)) {
            refused("line(0, " + v + ")", BAD, x -> x.line(0, v));
        }
        for (int v : Check.outside(1, 64)) {
            refused("time, l " + v, BAD, x -> x.time(v, true, NONE));
            refused("when, l " + v, BAD, x -> x.when(v, true, 0, 0, 0));
            refused("used, l " + v, BAD, x -> x.used(v, true, 0, 0));
            refused("tuned, l " + v, BAD, x -> x.tuned(v, true, 0));
        }
        for (int v : Check.outside(0, 2)) {
            refused("when, e " + v, BAD, x -> x.when(3, true, 0, v, 0));
            refused("used, unit " + v, BAD, x -> x.used(3, true, v, 0));
            refused("tuned, what " + v, BAD, x -> x.tuned(3, true, v));
        }
        for (int v : Check.outside(0, 1)) {
            refused("when, what " + v, BAD, x -> x.when(3, true, 0, 0, v));
            refused("used, what " + v, BAD, x -> x.used(3, true, 0, v));
        }
    }

    private static void refusedSheets() {
        for (int v : Check.outside(0, 3)) {
            refused("sheet(" + v + ", 0, 1)", BAD, x -> x.sheet(v, 0, 1));
            refused("write(" + v + ", 0, 1)", BAD, x -> x.write(v, 0, 1));
            refused("read(" + v + ", 0, 0)", BAD, x -> x.read(v, 0, 0));
            refused("write(0, " + v + ", 1)", -12, x -> x.write(0, v, 1));
        }
        for (int v : Check.outside(0, 2)) {
            refused("sheet(0, " + v + ", 1)", BAD, x -> x.sheet(0, v, 1));
            refused("read(0, " + v + ", 0)", BAD, x -> x.read(0, v, 0));
        }
        for (int k = 0; k < 4; k++) {
            int of = k;
            refused("sheet(" + of + ", 1, 257)", BAD, x -> x.sheet(of, 1, 257));
            refused("sheet(" + of + ", 1, MAX)", BAD, x -> x.sheet(of, 1, MAX));
            refused("sheet(" + of + ", 1, -1)", -14, x -> x.sheet(of, 1, -1));
            refused("sheet(" + of + ", 1, MIN)", -14, x -> x.sheet(of, 1, MIN));
        }
        refused("write of nothing", -11, x -> x.write(3, 0, 1));
        refused("read of nothing", -11, x -> x.read(3, 0, 0));
        refused("read of another lane", -13, x -> x.read(1, 2, 0));
        refused("read from behind", -12, x -> x.read(1, 1, 4));
        refused("read from ahead", -12, x -> x.read(1, 1, -1));
        refused("read of no BANK", -1003, x -> x.read(1, 1, 0));
        changesNothing("read of too few", RefusedTest::shortSheet, -12, x -> x.read(0, 0, 0));
    }

    /** Its SHEET 0 tells 15 of 16 CELLS, all of them others than those that are told. */
    private static BankStore shortSheet() {
        BankStore x = full();
        x.sheet(0, 0, 15);
        for (int i = 0; i < 15; i++) {
            x.write(0, i, (i * 3 + 2) % 5);
        }
        return x;
    }

    private static BankStore of65() {
        BankStore x = full();
        x.table(13, 5);
        x.lay(0, 0, 4);
        x.lay(1, 1, 2);
        return x;
    }

    private static BankStore clashes() {
        BankStore x = full();
        x.forget();
        x.wish(4, 4, 4);
        return x;
    }

    private static void refusedSearches() {
        changesNothing("free() of 65 CELLS", RefusedTest::of65, STATE, BankStore::free);
        changesNothing("freeBanks() of 65 CELLS", RefusedTest::of65, STATE, BankStore::freeBanks);
        changesNothing("free() that is SPENT", Layings::takesOneMore, SPENT, BankStore::free);
        changesNothing("freeBanks() that is SPENT", Layings::takesOneMore, SPENT, BankStore::freeBanks);
        changesNothing("free() of 16 CELLS, all apart", RefusedTest::clashes, NONE, BankStore::free);
        BankStore most = new BankStore();
        most.table(3, 6);
        most.wish(4, 3, 6);
        c.due("freeBanks() of 18 CELLS, all apart", most.freeBanks(), NONE);
        c.due("BANKS stay", most.count(2), 8);
    }

    /** A text that is refused changes THE TAPE and the FAULT, and nothing else. */
    private static void refusedText() {
        String[] wrong = {"!", "load", "load a 0 100;", "store a 0 1;", "load a0 1;".repeat(17)};
        for (int k = 0; k < wrong.length; k++) {
            BankStore with = full();
            BankStore without = full();
            with.end(0);
            without.end(0);
            c.holds("refused: " + wrong[k], Check.program(with, wrong[k]) <= -10);
            c.due("its FAULT: " + wrong[k], with.fault(), k + 1);
            c.due("THE TAPE is empty", with.count(9), 0);
            c.holds("nothing else changed: " + wrong[k], look(with).equals(look(without)));
        }
    }

    private static void asked(String told, Call call) {
        changesNothing(told, RefusedTest::full, call.on(full()), call);
    }

    private static void onlyAsked() {
        asked("cell", x -> x.cell(1, 2, 1));
        asked("bank", x -> x.bank(4, 2));
        asked("cut", x -> x.cut(4, 2, 3, 1, 1));
        asked("cuts", x -> x.cuts(3, 2, 1, 4));
        asked("granted", BankStore::granted);
        asked("fewest 0", x -> x.fewest(0, 1));
        asked("fewest 1", x -> x.fewest(1, 3));
        asked("bound", BankStore::bound);
        asked("freeBanks", BankStore::freeBanks);
        asked("inOrder", x -> x.inOrder(999, 99, 200));
        asked("beat", x -> x.beat(7, 8, 199));
        asked("queued", x -> x.queued(7, 8, 200, 1, 1));
        asked("rate", x -> x.rate(5, 3, 1));
        asked("steps", x -> x.steps(1));
        asked("fault", BankStore::fault);
        asked("line", x -> x.line(4, 2));
        asked("time", x -> x.time(64, false, 4));
        asked("when", x -> x.when(64, true, 3, 63, 1));
        asked("used", x -> x.used(64, true, 0, 1));
        asked("tuned", x -> x.tuned(9, true, 0));
        asked("count", x -> x.count(9));
    }
}
