/** Promises 23 to 31: THE TAPE, PROGRAMS and their beats. */
public final class ProgramsTest {
    private static final Check c = new Check();
    private static final int MIN = Integer.MIN_VALUE, MAX = Integer.MAX_VALUE;
    private static final int BAD = BankStore.BAD, FULL = BankStore.FULL, NONE = BankStore.NONE;

    public static void main(String[] args) {
        feed();
        end();
        program();
        fault();
        tooManyLines();
        line();
        time();
        when();
        rowsMadeAnew();
        used();
        tuned();
        c.finish();
    }

    private static BankStore with(String text) {
        BankStore x = new BankStore();
        c.holds(text, Check.program(x, text) >= 0);
        return x;
    }

    private static void feed() {
        c.promise(23);
        BankStore x = new BankStore();
        for (int k = 1; k <= 30; k++) {
            c.due("feed " + k, x.feed(-1), 8 * k);
        }
        c.due("full", x.feed(0), FULL);
        c.due("full", x.count(9), 240);
        x.end(233);
        c.due("full", x.feed(0), FULL);
        x.end(232);
        c.due("fits", x.feed(0), 240);
        BankStore y = new BankStore();
        c.due("highest first", Check.program(y, "load b 12 34;"), 1);
        c.due("highest first", y.line(0, 2), 12);
        c.due("highest first", y.line(0, 3), 34);
        y.feed(0x2020202020202020L);
        y.feed(0x20202020202020FFL);
        c.due("the lowest byte is the last", y.program(), -25);
    }

    private static void end() {
        c.promise(24);
        BankStore x = new BankStore();
        x.feed(0);
        x.feed(0);
        for (int v : new int[] {-1, 17, MIN, MAX}) {
            c.due("end(" + v + ")", x.end(v), BAD);
        }
        c.due("end(16)", x.end(16), 16);
        c.due("end(5)", x.end(5), 16);
        c.due("end(6)", x.end(6), BAD);
        c.due("end(0)", x.end(0), 5);
        c.due("end(0)", x.end(0), 0);
        c.due("end(1)", x.end(1), BAD);
        Check.tell(x, "load a 0 1;xyz");
        x.end(11);
        c.due("kept", x.program(), 1);
    }

    private static void program() {
        c.promise(25);
        BankStore x = new BankStore();
        c.due("no text", x.program(), 0);
        c.due("blanks", Check.program(x, "     "), 0);
        c.due("blanks all over", Check.program(x, "  load   a  0   1  ;   store a 3 4 ;  "), 2);
        c.due("THE TAPE is empty then", x.count(9), 0);
        c.due("no blanks where none is needed", Check.program(x, "load a0 1;add b a a;mul c b a;store c999 99;"), 4);
        c.due("zeros ahead", Check.program(x, "load h 0999 0001;"), 1);
        c.due("they are read as numbers", x.line(0, 2), 999);
        c.due("they are read as numbers", x.line(0, 3), 1);
        c.due("a fault", Check.program(x, "load a 0 1;add"), -10 - 14);
        c.due("that which was told stays", x.count(8), 1);
        c.due("that which was told stays", x.line(0, 1), 7);
        c.due("THE TAPE is empty then too", x.count(9), 0);
        c.due("what was read ahead of a fault is not there later", Check.program(x, "add b a a;"), -16);
        c.due("a new text", Check.program(x, "load a 1 2;load b 3 4;add c a b;"), 3);
        c.due("no text: no lines", x.program(), 0);
        c.due("no lines", x.count(8), 0);
    }

    private static void faulty(String text, int fault, int place) {
        BankStore x = new BankStore();
        c.due("[" + text + "] place", Check.program(x, text), -10 - place);
        c.due("[" + text + "] fault", x.fault(), fault);
    }

    private static void fault() {
        c.promise(26);
        faulty("Load a 0 1;", 1, 0);
        faulty("load A 0 1;", 1, 5);
        faulty("load a.0 1;", 1, 6);
        faulty("load a -1 1;", 1, 7);
        faulty("load a 0 1;\t", 1, 11);
        faulty("load a 0 1;\0", 1, 11);
        faulty("load a 0 1; \u00e9", 1, 12);
        faulty("load a 0 1;{", 1, 11);
        faulty("load a 0 1;`", 1, 11);
        faulty("load a 0 1:", 1, 10);
        faulty("load a 0 1/", 1, 10);
        faulty("load a 00000 1;", 1, 7);
        faulty("load a 0 00001;", 1, 9);
        faulty("12345", 1, 0);
        faulty("1234", 2, 0);
        faulty(";", 2, 0);
        faulty("loads a 0 1;", 2, 0);
        faulty("loa a 0 1;", 2, 0);
        faulty("a", 2, 0);
        faulty("load;", 2, 4);
        faulty("load", 2, 4);
        faulty("load   ", 2, 7);
        faulty("load 1 0 1;", 2, 5);
        faulty("load load 0 1;", 2, 5);
        faulty("load i 0 1;", 2, 5);
        faulty("load aa 0 1;", 2, 5);
        faulty("load a b 1;", 2, 7);
        faulty("load a ;", 2, 7);
        faulty("load a 1 b;", 2, 9);
        faulty("load a 1 ", 2, 9);
        faulty("load a 1 1 1;", 2, 11);
        faulty("load a 1 1 load", 2, 11);
        faulty("load a 1 1", 2, 10);
        faulty("load a 0 1;add b 0 1;", 2, 17);
        faulty("load a 0 1;add b a 1;", 2, 19);
        faulty("load a 0 1;add b a;", 2, 18);
        faulty("load a 0 1;add b a a", 2, 20);
        faulty("load a 0 1;add z a a;", 2, 15);
        faulty("load a 0 1;mul b i a;", 2, 17);
        faulty("load a 0 1;mul b a a a;", 2, 21);
        faulty("load a 1000 1;", 3, 7);
        faulty("load a 9999 99999;", 3, 7);
        faulty("load a 0 0;", 3, 9);
        faulty("load a 0 100;", 3, 9);
        faulty("load a 0 1;store a 1000 1;", 3, 19);
        faulty("load a 0 1;store a 0 0;", 3, 21);
        faulty("store a 1000 0;", 4, 6);
        faulty("add a a a;", 4, 6);
        faulty("load a 0 1;add b a b;", 4, 19);
        faulty("load a 0 1;mul b b a;", 4, 17);
        faulty("load a 0 1;store b", 4, 17);
        faulty("load a 0 1;add b a a;store c 0 1;", 4, 27);
        faulty("load h 0 1;add g h f;", 4, 19);
        faulty("goad a 0 1;", 2, 0);
        faulty("dul a b b;", 2, 0);
        faulty("odd a b b;", 2, 0);
        faulty("ttore a 0 1;", 2, 0);
        cutOff("loadx", 4, 2, 4);
        cutOff("load a 0 99999", 11, 2, 11);
        cutOff("load a 0 1;load ab", 17, 2, 17);
        fullTape();
        BankStore x = new BankStore();
        Check.program(x, "?");
        c.due("the latest", x.fault(), 1);
        c.due("asking leaves it", x.fault(), 1);
        Check.program(x, "load a 999 99;load h 0 1;store h 999 99;");
        c.due("none", x.fault(), 0);
    }

    /** What stood behind the end of THE TAPE is not read. */
    private static void cutOff(String text, int keep, int fault, int place) {
        BankStore x = new BankStore();
        Check.tell(x, text);
        x.end(keep);
        c.due("[" + text + "] cut off at " + keep, x.program(), -10 - place);
        c.due("[" + text + "] cut off, fault", x.fault(), fault);
    }

    private static void fullTape() {
        for (String last : new String[] {"load", "load a 0 99", "load a 0 12", "load a 0 1;", "        "}) {
            BankStore x = new BankStore();
            boolean whole = last.endsWith(";") || last.isBlank();
            String text = " ".repeat(240 - last.length()) + last;
            int lines = last.isBlank() ? 0 : 1;
            c.due("240 bytes [" + last + "]", Check.program(x, text), whole ? lines : -250);
            c.due("240 bytes [" + last + "], fault", x.fault(), whole ? 0 : 2);
        }
    }

    private static void tooManyLines() {
        StringBuilder sixteen = new StringBuilder();
        for (int k = 0; k < 16; k++) {
            sixteen.append("load a 0 1;");
        }
        BankStore x = new BankStore();
        c.due("16 lines", Check.program(x, sixteen + "   "), 16);
        c.due("16 lines", x.count(8), 16);
        faulty(sixteen + "load a 0 1;", 5, 176);
        faulty(sixteen + "  store z", 5, 178);
        faulty(sixteen + "mul", 5, 176);
        faulty(sixteen + "get a 0 1;", 2, 176);
        faulty(sixteen + ";", 2, 176);
        faulty(sixteen + "!", 1, 176);
    }

    private static void line() {
        c.promise(27);
        BankStore x = with("load h 998 97;store h 5 6;load b 0 1;add c h b;mul g b c;");
        int[][] lines = {{0, 7, 998, 97}, {1, 7, 5, 6}, {0, 1, 0, 1}, {2, 2, 7, 1}, {3, 6, 1, 2}};
        for (int k = 0; k < lines.length; k++) {
            for (int what = 0; what < 4; what++) {
                c.due("line(" + k + ", " + what + ")", x.line(k, what), lines[k][what]);
            }
        }
        for (int v : new int[] {-1, 5, NONE, MIN, MAX}) {
            c.due("k " + v, x.line(v, 0), BAD);
        }
        for (int v : new int[] {-1, 4, MIN, MAX}) {
            c.due("what " + v, x.line(0, v), BAD);
        }
    }

    private static void time() {
        c.promise(28);
        BankStore x = with("load a 0 1;add b a a;mul c b a;store c 4 1;");
        // LINKED: load at 0, 1; add at 4, 5; mul at 7, 8; store at 12, 13.
        c.due("linked 0", x.time(2, true, 0), 5);
        c.due("linked 1", x.time(2, true, 1), 8);
        c.due("linked 2", x.time(2, true, 2), 13);
        c.due("linked 3", x.time(2, true, 3), 17);
        c.due("linked", x.time(2, true, NONE), 17);
        // Not: load at 0, 1; add at 5, 6; mul at 9, 10; store at 15, 16.
        c.due("not linked 0", x.time(2, false, 0), 5);
        c.due("not linked 1", x.time(2, false, 1), 9);
        c.due("not linked 2", x.time(2, false, 2), 15);
        c.due("not linked", x.time(2, false, NONE), 20);
        x.rest(12);
        c.due("REST 12", x.time(1, true, NONE), 12 + 3 + 5 + 12);
        BankStore y = with("load a 0 1;mul b a a;load c 1 1;");
        // mul at 4, there in 9; the second load at 1, there in 5: THE END is not the last line's.
        c.due("the latest", y.time(1, true, NONE), 9);
        c.due("the last line", y.time(1, true, 2), 5);
        for (int v : new int[] {0, -1, 65, MIN, MAX}) {
            c.due("l " + v, x.time(v, true, NONE), BAD);
        }
        for (int v : new int[] {-1, -2, -3, -5, 4, MIN, MAX}) {
            c.due("k " + v, x.time(1, true, v), BAD);
        }
        c.due("64 elements", y.time(64, true, 0), 63 + 4);
        c.due("no lines", new BankStore().time(1, true, 0), BAD);
        c.due("no lines", new BankStore().time(1, true, NONE), 0);
    }

    private static void when() {
        c.promise(29);
        BankStore x = with("load a 0 8;load b 8 1;store a 1 1;add c a b;add d b b;mul e a a;");
        // load a: BANK 0 at 0, 4, 8. load b: BANKS 0, 1, 2 at 12, 13, 14.
        // store a: BANKS 1, 2, 3 at 17 (BANK 1 was asked in 13), 18, 19.
        int[][] linked = {{0, 4, 8}, {12, 13, 14}, {17, 18, 19}, {16, 17, 18}, {19, 20, 21}, {4, 8, 12}};
        int[][] not = {{0, 4, 8}, {12, 13, 14}, {17, 18, 19}, {18, 19, 20}, {21, 22, 23}, {12, 13, 14}};
        int[] makes = {4, 4, 4, 3, 3, 5};
        for (int k = 0; k < 6; k++) {
            for (int e = 0; e < 3; e++) {
                c.due("linked " + k + " " + e, x.when(3, true, k, e, 0), linked[k][e]);
                c.due("linked, there " + k + " " + e, x.when(3, true, k, e, 1), linked[k][e] + makes[k]);
                c.due("not " + k + " " + e, x.when(3, false, k, e, 0), not[k][e]);
                c.due("not, there " + k + " " + e, x.when(3, false, k, e, 1), not[k][e] + makes[k]);
            }
        }
        x.rest(7);
        c.due("REST 7", x.when(3, true, 0, 2, 1), 21);
        for (int v : new int[] {0, -1, 65, MIN, MAX}) {
            c.due("l " + v, x.when(v, true, 0, 0, 0), BAD);
        }
        for (int v : new int[] {-1, NONE, 6, MIN, MAX}) {
            c.due("k " + v, x.when(3, true, v, 0, 0), BAD);
        }
        for (int v : new int[] {-1, 3, MIN, MAX}) {
            c.due("e " + v, x.when(3, true, 0, v, 0), BAD);
        }
        for (int v : new int[] {-1, 2, MIN, MAX}) {
            c.due("what " + v, x.when(3, true, 0, 0, v), BAD);
        }
    }

    private static void rowsMadeAnew() {
        BankStore x = with("load a 0 1;mul b a a;load a 1 1;add b a a;store b 2 1;mul a a b;");
        // load at 0, mul at 4, load anew at 1 (BANK 1), add of that at 5, store of the new b at 8, mul of both at 8.
        int[] goes = {0, 4, 1, 5, 8, 8};
        for (int k = 0; k < goes.length; k++) {
            c.due("made anew, line " + k, x.when(1, true, k, 0, 0), goes[k]);
        }
        BankStore y = with("load a 0 1;add a a a;add a a a;mul a a a;store a 0 1;");
        int[] own = {0, 4, 7, 10, 15};
        for (int k = 0; k < own.length; k++) {
            c.due("made of itself, line " + k, y.when(1, true, k, 0, 0), own[k]);
        }
        // The second source is waited for as well as the first.
        BankStore z = with("load a 0 1;mul b a a;add c a b;add d b a;store c 1 1;");
        c.due("second source", z.when(1, true, 2, 0, 0), 9);
        c.due("behind it", z.when(1, true, 3, 0, 0), 10);
    }

    private static void used() {
        c.promise(30);
        BankStore x = with("load a 0 1;load b 4 1;add c a b;mul d c c;mul e d d;store e 1 1;");
        int[] lines = {3, 1, 2};
        for (int unit = 0; unit < 3; unit++) {
            c.due("takes, linked " + unit, x.used(5, true, unit, 0), 5 * lines[unit]);
            c.due("takes, not " + unit, x.used(7, false, unit, 0), 7 * lines[unit]);
            c.due("of all, linked " + unit, x.used(5, true, unit, 1), x.time(5, true, NONE));
            c.due("of all, not " + unit, x.used(7, false, unit, 1), x.time(7, false, NONE));
        }
        // load at 0 and 1, add at 5, mul at 8 and 13, store at 18.
        c.due("of all", x.used(1, true, 1, 1), 22);
        for (int v : new int[] {0, -1, 65, MIN, MAX}) {
            c.due("l " + v, x.used(v, true, 0, 0), BAD);
        }
        for (int v : new int[] {-1, 3, MIN, MAX}) {
            c.due("unit " + v, x.used(1, true, v, 0), BAD);
        }
        for (int v : new int[] {-1, 2, MIN, MAX}) {
            c.due("what " + v, x.used(1, true, 0, v), BAD);
        }
        c.due("no lines", new BankStore().used(9, true, 2, 0), 0);
    }

    private static void tuned() {
        c.promise(31);
        BankStore x = with("load a 0 8;load b 0 9;store b 0 1;");
        for (int m : new int[] {1, 2, 5, 8}) {
            x.banks(m);
            for (int l = 1; l <= 9; l += 4) {
                tunedIsFirstOfAll(x, m, l, l == 5);
            }
        }
        x.table(5, 3);
        x.banks(5);
        tunedIsFirstOfAll(x, 5, 7, true);
        x.table(8, 8);
        x.banks(8);
        x.law(2, 0, 0);
        x.lay(0, 1, 3);
        x.tuned(4, true, 0);
        c.due("THE LAW stays", x.count(3), 2);
        c.due("a stays", x.count(4) + x.count(5), 14);
        c.due("told stays", x.cell(0, 1, 2), 3);
        c.due("BANKS stay", x.count(2), 8);
        for (int v : new int[] {0, -1, 65, MIN, MAX}) {
            c.due("l " + v, x.tuned(v, true, 0), BAD);
        }
        for (int v : new int[] {-1, 3, MIN, MAX}) {
            c.due("what " + v, x.tuned(1, true, v), BAD);
        }
        BankStore none = new BankStore();
        for (int what = 0; what < 3; what++) {
            c.due("no lines", none.tuned(64, false, what), 0);
        }
    }

    private static void tunedIsFirstOfAll(BankStore x, int m, int l, boolean linked) {
        int[] tuned = {x.tuned(l, linked, 0), x.tuned(l, linked, 1), x.tuned(l, linked, 2)};
        int[] best = {0, 0, MAX};
        for (int a = 0; a < m; a++) {
            for (int b = 0; b < m; b++) {
                x.law(0, a, b);
                int ends = x.time(l, linked, NONE);
                if (ends < best[2]) {
                    best = new int[] {a, b, ends};
                }
            }
        }
        x.law(0, 7, 7);
        for (int what = 0; what < 3; what++) {
            c.due("tuned " + what + " with " + m + " BANKS", tuned[what], best[what]);
        }
    }
}
