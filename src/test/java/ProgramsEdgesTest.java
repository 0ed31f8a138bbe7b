/** The boundary cases of THE TAPE and of PROGRAMS, sentence by sentence: Terms, promises 23 to 31. */
public final class ProgramsEdgesTest {
    private static final Check c = new Check();
    private static final int BAD = BankStore.BAD, FULL = BankStore.FULL, NONE = BankStore.NONE;
    private static final String TEN = "load a0 1;";

    public static void main(String[] args) {
        tape();
        tokens();
        lines();
        numbers();
        rowsOfWhich();
        firstMet();
        noToken();
        cannotStand();
        outOfBounds();
        notMade();
        seventeenthLine();
        elements();
        units();
        waits();
        makes();
        madeAnew();
        lineEnds();
        theEnd();
        feed();
        end();
        program();
        fault();
        line();
        time();
        when();
        used();
        tuned();
        c.finish();
    }

    private static BankStore with(String text) {
        BankStore x = new BankStore();
        c.holds("[" + text + "] is fine", Check.program(x, text) > 0);
        return x;
    }

    private static void fine(String text, int lines) {
        BankStore x = new BankStore();
        c.due("[" + text + "]", Check.program(x, text), lines);
        c.due("[" + text + "] fault", x.fault(), 0);
    }

    private static void faulty(String text, int fault, int place) {
        BankStore x = new BankStore();
        c.due("[" + text + "]", Check.program(x, text), -10 - place);
        c.due("[" + text + "] fault", x.fault(), fault);
    }

    private static void tape() {
        c.sentence(0, "THE TAPE has 240 bytes, places from 0.");
        for (int place = 0; place < 240; place++) {
            faulty(" ".repeat(place) + "!" + " ".repeat(239 - place), 1, place);
        }
        fine(" ".repeat(240), 0);
        fine(" ".repeat(230) + TEN, 1);
        fine(TEN.repeat(16) + " ".repeat(80), 16);
        faulty(" ".repeat(236) + "load", 2, 240);
        BankStore x = new BankStore();
        Check.tell(x, " ".repeat(240));
        c.due("all 240", x.count(9), 240);
        c.due("no more", x.feed(0), FULL);
    }

    private static void tokens() {
        c.sentence(0, "TOKENS, each as long as may be, blanks (32) between: NAMES (a .. z), NUMBERS (1 to 4"
                + " figures), one ; .");
        fine("load a0001 0002;", 1);
        fine("load a0   1;load b1 1;add c b a;", 3);
        fine("   load   a   0   1   ;   ", 1);
        faulty("loada 0 1;", 2, 0);
        faulty("load aa 0 1;", 2, 5);
        faulty("load a 01;", 2, 9);
        faulty("load a 0 1;;", 2, 11);
        faulty("load a 0 1;load b 0 1;addc b a;", 2, 22);
        faulty("lo ad a 0 1;", 2, 0);
        faulty("load a 1 2 3;", 2, 11);
        fine("load a 9 1;", 1);
        fine("load a 99 1;", 1);
        fine("load a 999 1;", 1);
        fine("load a 0999 1;", 1);
        faulty("load a 00999 1;", 1, 7);
        faulty("load a 0\t1;", 1, 8);
        faulty("load a 0\u00a01;", 1, 8);
    }

    private static void lines() {
        c.sentence(0, "text: { line } line: load ROW NUMBER NUMBER ; | store ROW NUMBER NUMBER ; | add ROW ROW ROW"
                + " ; | mul ROW ROW ROW ; ROW: a NAME of one letter, a to h");
        fine("", 0);
        fine("load a 0 1;", 1);
        fine("load a 0 1;store a 0 1;add b a a;mul c a b;", 4);
        for (char row = 'a'; row <= 'z'; row++) {
            String text = "load " + row + " 0 1;store " + row + " 0 1;add " + row + " " + row + " " + row + ";";
            if (row <= 'h') {
                fine(text, 3);
                fine("load a 0 1;mul " + row + " a a;", 2);
            } else {
                faulty(text, 2, 5);
                faulty("store " + row, 2, 6);
                faulty("load a 0 1;add " + row + " a a;", 2, 15);
                faulty("load a 0 1;add b " + row + " a;", 2, 17);
                faulty("load a 0 1;mul b a " + row + ";", 2, 19);
            }
        }
        faulty("load a 0;", 2, 8);
        faulty("load a 0 1 1;", 2, 11);
        faulty("load a 0 1;add b a;", 2, 18);
        faulty("load a 0 1;mul b a a a;", 2, 21);
        faulty("load a b c;", 2, 7);
        faulty("load a 0 1;add 1 a a;", 2, 15);
    }

    private static void numbers() {
        c.sentence(0, "load, store: a ROW, from an address on (0 to 999), by steps (1 to 99).");
        for (String move : new String[] {"load a ", "load a 0 1;store a "}) {
            int lines = move.length() > 7 ? 2 : 1;
            int at = move.length();
            for (String address : new String[] {"0", "00", "0000", "1", "9", "99", "100", "999", "0999"}) {
                BankStore x = new BankStore();
                c.due(move + address, Check.program(x, move + address + " 1;"), lines);
                c.due(move + address + ", read", x.line(lines - 1, 2), Integer.parseInt(address));
            }
            for (String step : new String[] {"1", "01", "0001", "9", "10", "99", "0099"}) {
                BankStore x = new BankStore();
                c.due(move + "0 " + step, Check.program(x, move + "0 " + step + ";"), lines);
                c.due(move + "0 " + step + ", read", x.line(lines - 1, 3), Integer.parseInt(step));
            }
            faulty(move + "1000 1;", 3, at);
            faulty(move + "9999 1;", 3, at);
            faulty(move + "0 0;", 3, at + 2);
            faulty(move + "0 0000;", 3, at + 2);
            faulty(move + "0 100;", 3, at + 2);
            faulty(move + "0 9999;", 3, at + 2);
        }
    }

    private static void rowsOfWhich() {
        c.sentence(0, "add, mul: the ROW that is made, those of which.");
        for (String name : new String[] {"add", "mul"}) {
            BankStore x = with("load a 0 1;load h 0 1;" + name + " g a h;" + name + " b h a;" + name + " a a a;");
            int[][] due = {{6, 0, 7}, {1, 7, 0}, {0, 0, 0}};
            for (int k = 0; k < 3; k++) {
                for (int what = 1; what < 4; what++) {
                    c.due(name + " " + k + ", what " + what, x.line(2 + k, what), due[k][what - 1]);
                }
            }
        }
    }

    private static void firstMet() {
        c.sentence(0, "FAULTS, the first met as it is read (a TOKEN is read when the one before has been taken):");
        faulty("get !", 2, 0);
        faulty("load i !", 2, 5);
        faulty("load a 1000 !", 3, 7);
        faulty("load a 0 100 !", 3, 9);
        faulty("load a 1000 100;", 3, 7);
        faulty("load a 12345 0;", 1, 7);
        faulty("store b !", 4, 6);
        faulty("store b 1000 0;", 4, 6);
        faulty("add i b c;", 2, 4);
        faulty("add a b !", 4, 6);
        faulty("load a 0 1;add b a c !", 4, 19);
        faulty("load a 0 1 !", 1, 11);
        faulty("load a 0 1;! get", 1, 11);
        faulty(TEN.repeat(16) + "load !", 5, 160);
        faulty(TEN.repeat(16) + "load i 1000 0", 5, 160);
        faulty("load a 0 0;" + TEN.repeat(16), 3, 9);
    }

    /** Every byte there is, behind a text: 1 is due for those that begin no TOKEN. */
    private static void noToken() {
        c.sentence(0, "1 no TOKEN, a NUMBER that is too long (its first byte).");
        String[] ahead = {"", "load ", "load a ", "load a 1 2"};
        for (String text : ahead) {
            for (int b = 0; b < 256; b++) {
                boolean begins = b == ' ' || b == ';' || b >= 'a' && b <= 'z' || b >= '0' && b <= '9';
                BankStore x = new BankStore();
                int answer = Check.program(x, text + (char) b);
                String which = "[" + text + "] and byte " + b;
                c.due(which, x.fault() == 1 ? 1 : 0, begins ? 0 : 1);
                if (!begins) {
                    c.due(which + ", place", answer, -10 - text.length());
                }
            }
        }
        faulty("12345", 1, 0);
        faulty("load 12345", 1, 5);
        faulty("load a 00000 1;", 1, 7);
        faulty("load a 0 00001;", 1, 9);
        faulty("load a 0 1 00001", 1, 11);
        faulty("load a 1234567890123456789012345678901234567890 1;", 1, 7);
        // 4294967296 comes round to 0, 4294967297 to 1.
        faulty("load a 4294967296 1;", 1, 7);
        faulty("load a 0 4294967297;", 1, 9);
    }

    private static void cannotStand() {
        c.sentence(0, "2 a TOKEN that can not stand there (a NAME that is no line or no ROW; or the end: the"
                + " length).");
        String load = "load b 999 99;";
        for (int n = 1; n < load.length(); n++) {
            faulty(load.substring(0, n), 2, n < 4 ? 0 : n);
        }
        String add = "load a 0 1;add b a a;";
        for (int n = 12; n < add.length(); n++) {
            faulty(add.substring(0, n), 2, n < 14 ? 11 : n);
        }
        String store = "load a 0 1;store a 0 1;";
        for (int n = 12; n < store.length(); n++) {
            faulty(store.substring(0, n), 2, n < 16 ? 11 : n);
        }
        for (String name : new String[] {"a", "loa", "loadd", "stor", "stores", "ad", "addd", "mu", "mull", "lload",
            "boad", "ltore", "odd", "dul", "loaf", "storm", "ado", "mud"}) {
            faulty(name + " a 0 1;", 2, 0);
            faulty("load a 0 1; " + name, 2, 12);
        }
        faulty("1", 2, 0);
        faulty(";", 2, 0);
        faulty("load load", 2, 5);
        faulty("load ;", 2, 5);
        faulty("load 1", 2, 5);
        faulty("load add", 2, 5);
        faulty("load a ;", 2, 7);
        faulty("load a b", 2, 7);
        faulty("load a 0 ;", 2, 9);
        faulty("load a 0 b", 2, 9);
        faulty("load a 0 1 1", 2, 11);
        faulty("load a 0 1 a", 2, 11);
    }

    private static void outOfBounds() {
        c.sentence(0, "3 a NUMBER out of its bounds.");
        for (int address = 995; address <= 1005; address++) {
            if (address > 999) {
                faulty("load a " + address + " 1;", 3, 7);
            } else {
                fine("load a " + address + " 1;", 1);
            }
        }
        for (int step = 95; step <= 105; step++) {
            if (step > 99) {
                faulty("load a 0 " + step + ";", 3, 9);
            } else {
                fine("load a 0 " + step + ";", 1);
            }
        }
        faulty("load a 0 0;", 3, 9);
        fine("load a 0 1;", 1);
    }

    private static void notMade() {
        c.sentence(0, "4 a ROW that is taken and was not loaded or made ahead (it).");
        for (char row = 'a'; row <= 'h'; row++) {
            char next = row == 'h' ? 'a' : (char) (row + 1);
            faulty("store " + row + " 0 1;", 4, 6);
            faulty("add " + row + " " + row + " " + row + ";", 4, 6);
            faulty("load " + row + " 0 1;store " + next + " 0 1;", 4, 17);
            faulty("load " + row + " 0 1;mul a " + next + " " + row + ";", 4, 17);
            faulty("load " + row + " 0 1;mul a " + row + " " + next + ";", 4, 19);
            fine("load " + row + " 0 1;add " + next + " " + row + " " + row + ";store " + next + " 0 1;", 3);
            fine("load " + row + " 0 1;mul " + next + " " + row + " " + row + ";store " + next + " 0 1;", 3);
        }
        faulty("load a 0 1;add b b a;", 4, 17);
        faulty("load a 0 1;store a 0 1;store b 0 1;", 4, 29);
        BankStore x = with("load a 0 1;");
        c.due("one of the PROGRAM ahead is not there", Check.program(x, "store a 0 1;"), -16);
        c.due("one of a text that was refused is not there", Check.program(x, "load b 0 1;!"), -21);
        c.due("one of a text that was refused is not there", Check.program(x, "store b 0 1;"), -16);
    }

    private static void seventeenthLine() {
        c.sentence(0, "5 the 17th line (its NAME).");
        fine(TEN.repeat(15), 15);
        fine(TEN.repeat(16), 16);
        fine(TEN.repeat(16) + "  ", 16);
        for (String name : new String[] {"load", "store", "add", "mul"}) {
            faulty(TEN.repeat(16) + name, 5, 160);
            faulty(TEN.repeat(16) + "   " + name + " a 0 1;", 5, 163);
        }
        faulty(TEN.repeat(17), 5, 160);
        faulty(TEN.repeat(24), 5, 160);
        faulty(TEN.repeat(16) + " ".repeat(77) + "mul", 5, 237);
        faulty(TEN.repeat(16) + ";", 2, 160);
        faulty(TEN.repeat(16) + "a", 2, 160);
    }

    private static void elements() {
        c.sentence(0, "A PROGRAM runs with ROWS of L elements (1 to 64).");
        BankStore x = with("load a 0 1;");
        for (int l = 1; l <= 64; l++) {
            c.due("L " + l, x.time(l, true, NONE), l - 1 + 4);
            c.due("L " + l + ", the last element", x.when(l, false, 0, l - 1, 0), l - 1);
            c.due("L " + l + ", none behind it", x.when(l, false, 0, l, 0), BAD);
        }
        for (int l : Check.outside(1, 64)) {
            c.due("time, L " + l, x.time(l, true, NONE), BAD);
            c.due("when, L " + l, x.when(l, true, 0, 0, 0), BAD);
            c.due("used, L " + l, x.used(l, true, 0, 0), BAD);
            c.due("tuned, L " + l, x.tuned(l, true, 0), BAD);
        }
        // 16 lines of 64 elements, all in one BANK that rests 12 beats.
        BankStore most = with(TEN.repeat(16));
        most.banks(1);
        most.rest(12);
        c.due("the slowest of all", most.time(64, false, NONE), 16 * 64 * 12);
        c.due("the slowest of all, its last element", most.when(64, true, 15, 63, 0), (16 * 64 - 1) * 12);
    }

    private static void units() {
        c.sentence(0, "Three units: the PORT (load, store), the ADDER, the MULTIPLIER; each does its lines in"
                + " order, element by element, one in a beat at most, the next line behind the last element of"
                + " the one ahead.");
        BankStore x = with("load a 0 1;load b 0 8;mul c b b;mul d a a;add e b b;add f a a;store a 3 1;");
        // load a: BANKS 0, 1 in 0, 1. load b: BANK 0 in 4, 8, there in 8, 12. What waits for b holds what is behind it.
        int[][] goes = {{0, 1}, {4, 8}, {8, 12}, {13, 14}, {8, 12}, {13, 14}, {9, 10}};
        for (int k = 0; k < goes.length; k++) {
            for (int e = 0; e < 2; e++) {
                c.due("line " + k + ", element " + e, x.when(2, true, k, e, 0), goes[k][e]);
            }
        }
        BankStore y = with("load a 0 1;add b a a;add c a a;mul d a a;mul e a a;store a 1 1;");
        int[] one = {0, 4, 5, 4, 5, 4};
        for (int k = 0; k < one.length; k++) {
            c.due("one element, line " + k, y.when(1, true, k, 0, 0), one[k]);
        }
    }

    private static void waits() {
        c.sentence(0, "An element goes into its unit in the first beat in which the unit is free (0 or later), its"
                + " sources are there (LINKED: that element of both; else all elements of both), and (PORT) its"
                + " BANK can be asked (REST goes on from line to line).");
        BankStore x = with("load a 0 1;load b 1 1;add c a b;add d b a;store a 8 1;");
        // load a: BANKS 0, 1, 2 in 0, 1, 2. load b: BANKS 1, 2, 3 in 5, 6, 7: BANK 1 rests up to there.
        int[][] linked = {{0, 1, 2}, {5, 6, 7}, {9, 10, 11}, {12, 13, 14}, {8, 9, 10}};
        int[][] not = {{0, 1, 2}, {5, 6, 7}, {11, 12, 13}, {14, 15, 16}, {8, 9, 10}};
        for (int k = 0; k < 5; k++) {
            for (int e = 0; e < 3; e++) {
                c.due("linked, line " + k + ", element " + e, x.when(3, true, k, e, 0), linked[k][e]);
                c.due("not linked, line " + k + ", element " + e, x.when(3, false, k, e, 0), not[k][e]);
            }
        }
        for (String sources : new String[] {"a b", "b a", "b b"}) {
            BankStore late = with("load a 0 1;mul b a a;add c " + sources + ";");
            c.due("the later source of " + sources, late.when(1, true, 2, 0, 0), 9);
            c.due("the later source of " + sources + ", not linked", late.when(2, false, 2, 0, 0), 11);
        }
        c.due("the first goes in beat 0", x.when(64, false, 0, 0, 0), 0);
        c.due("no PROGRAM leaves a rest behind", x.when(64, true, 0, 0, 0), 0);
        for (int k = 0; k < 5; k++) {
            c.due("one element: linked or not, line " + k, x.when(1, true, k, 0, 0), x.when(1, false, k, 0, 0));
        }
        BankStore y = with("load a 0 1;store a 0 1;");
        y.rest(12);
        c.due("a store waits for the load and for the BANK", y.when(2, true, 1, 0, 0), 12);
        c.due("a store of all elements", y.when(2, false, 1, 0, 0), 13);
        BankStore z = with("load a 999 99;");
        z.table(1, 1);
        c.due("addresses come round to the one CELL", z.when(64, true, 0, 63, 0), 4 * 63);
    }

    private static void makes() {
        c.sentence(0, "What it makes is there: load REST beats later, add 3, mul 5.");
        BankStore x = with("load a 0 1;add b a a;mul c a a;");
        for (int r = 1; r <= 12; r++) {
            x.rest(r);
            c.due("load, REST " + r, x.when(1, true, 0, 0, 1), r);
            c.due("add goes, REST " + r, x.when(1, true, 1, 0, 0), r);
            c.due("add, REST " + r, x.when(1, true, 1, 0, 1), r + 3);
            c.due("mul goes, REST " + r, x.when(1, true, 2, 0, 0), r);
            c.due("mul, REST " + r, x.when(1, true, 2, 0, 1), r + 5);
        }
    }

    private static void madeAnew() {
        c.sentence(0, "(A ROW that is made anew is another one for lines behind it.)");
        // The mul of the first a is not waited for by the add of the new one, nor the other way round.
        BankStore x = with("load a 0 1;mul b a a;load a 8 1;add b a a;store b 1 1;store a 2 1;");
        int[] goes = {0, 4, 4, 8, 11, 12};
        for (int k = 0; k < goes.length; k++) {
            c.due("line " + k, x.when(1, true, k, 0, 0), goes[k]);
        }
        BankStore y = with("load a 0 1;mul a a a;mul a a a;add a a a;");
        int[] own = {0, 4, 9, 14};
        for (int k = 0; k < own.length; k++) {
            c.due("made of itself, line " + k, y.when(1, true, k, 0, 0), own[k]);
        }
    }

    private static void lineEnds() {
        c.sentence(0, "A line's END: when its last element is there (store: REST behind its last).");
        BankStore x = with("load a 0 1;add b a a;mul c a a;store a 4 1;");
        int[] linked = {5, 5 + 3, 5 + 5, 5 + 4};
        int[] not = {5, 6 + 3, 6 + 5, 6 + 4};
        for (int k = 0; k < 4; k++) {
            c.due("linked, line " + k, x.time(2, true, k), linked[k]);
            c.due("not linked, line " + k, x.time(2, false, k), not[k]);
        }
        x.rest(12);
        c.due("store, REST 12", x.time(1, true, 3), 24);
    }

    private static void theEnd() {
        c.sentence(0, "THE END: the latest.");
        c.due("no lines", new BankStore().time(64, true, NONE), 0);
        c.due("one line", with("load a 0 1;").time(1, true, NONE), 4);
        c.due("the first line", with("load a 0 1;mul b a a;load c 1 1;").time(1, true, NONE), 9);
        c.due("the last line", with("load a 0 1;load c 1 1;mul b a a;").time(1, true, NONE), 9);
    }

    private static void feed() {
        c.sentence(23, "Eight bytes come behind THE TAPE, the highest first: how many it has. FULL: more than 240.");
        for (int place = 0; place < 8; place++) {
            BankStore x = new BankStore();
            c.due("byte " + place, x.feed(0x2020202020202020L ^ 0xFFL << 56 - 8 * place), 8);
            c.due("byte " + place + " stands at its place", x.program(), -10 - place);
        }
        for (int had = 225; had <= 240; had++) {
            BankStore x = new BankStore();
            Check.tell(x, " ".repeat(had));
            c.due("behind " + had, x.feed(-1), had <= 232 ? had + 8 : FULL);
            c.due("behind " + had + ": bytes", x.count(9), had <= 232 ? had + 8 : had);
            c.due("behind " + had + ": refused bytes are not there", x.program(), had <= 232 ? -10 - had : 0);
        }
        BankStore x = new BankStore();
        c.due("the least number", x.feed(Long.MIN_VALUE), 8);
        c.due("the greatest number", x.feed(Long.MAX_VALUE), 16);
        c.due("0", x.feed(0), 24);
    }

    private static void end() {
        c.sentence(24, "THE TAPE keeps its first n bytes: how many it had. BAD.");
        BankStore x = new BankStore();
        c.due("none of none", x.end(0), 0);
        c.due("one of none", x.end(1), BAD);
        Check.tell(x, " ".repeat(240));
        c.due("241", x.end(241), BAD);
        c.due("-1", x.end(-1), BAD);
        c.due("all", x.end(240), 240);
        for (int n = 239; n >= 0; n -= 3) {
            c.due("the first " + n, x.end(n), n == 239 ? 240 : n + 3);
            c.due("more than there are, " + n, x.end(n + 1), BAD);
        }
        c.due("none of two", x.end(0), 2);
        Check.tell(x, TEN + "?");
        for (int n : Check.outside(0, 11)) {
            c.due("end(" + n + ")", x.end(n), BAD);
        }
        c.due("refused: all stay", x.count(9), 11);
        c.due("all but the last", x.end(10), 11);
        c.due("the bytes behind are gone", x.program(), 1);
        for (int n = 8; n < 27; n++) {
            Check.tell(x, "load a 12345678901234567890;");
            x.end(n);
            c.due("cut off within a NUMBER at " + n, x.program(), n < 11 ? -10 - n : -17);
            c.due("cut off within a NUMBER at " + n + ", fault", x.fault(), n < 11 ? 2 : n == 11 ? 3 : 1);
        }
        Check.tell(x, "load aaaaaaaaaaaaaaaaaaaaaaa");
        x.end(6);
        c.due("cut off within a NAME", x.program(), -16);
        x.feed(0x3131313131313131L);
        x.end(0);
        x.feed(0x2020202020202020L);
        x.end(4);
        c.due("what stood there is not read", x.program(), 0);
    }

    private static void program() {
        c.sentence(25, "THE TAPE (empty then) tells THE PROGRAM: how many lines; -10 less the place of its FAULT:"
                + " that which was told stays.");
        BankStore x = with("load c 7 8;store c 9 10;");
        int[][] told = {{0, 2, 7, 8}, {1, 2, 9, 10}};
        String[] wrong = {"!", "load", "load a 0 0;", "store a 0 1;", TEN.repeat(17), TEN + TEN + TEN + "?"};
        int[] places = {0, 4, 9, 6, 160, 30};
        for (int w = 0; w < wrong.length; w++) {
            c.due("[" + wrong[w] + "]", Check.program(x, wrong[w]), -10 - places[w]);
            c.due("THE TAPE is empty", x.count(9), 0);
            c.due("two lines stay", x.count(8), 2);
            for (int k = 0; k < 2; k++) {
                for (int what = 0; what < 4; what++) {
                    c.due("line " + k + " stays, what " + what, x.line(k, what), told[k][what]);
                }
            }
            c.due("its END stays", x.time(1, true, NONE), 8);
        }
        c.due("16 lines", Check.program(x, TEN.repeat(16)), 16);
        c.due("THE TAPE is empty", x.count(9), 0);
        c.due("no text tells no lines", x.program(), 0);
        c.due("no lines", x.count(8), 0);
        c.due("the greatest place", Check.program(x, " ".repeat(236) + "load"), -250);
    }

    private static void fault() {
        c.sentence(26, "The FAULT of the latest program(); 0.");
        BankStore x = new BankStore();
        c.due("no program() yet", x.fault(), 0);
        String[] wrong = {"!", "load", "load a 0 0;", "store a 0 1;", TEN.repeat(17)};
        for (int k = 0; k < wrong.length; k++) {
            Check.program(x, wrong[k]);
            c.due("[" + wrong[k] + "]", x.fault(), k + 1);
            x.feed(0);
            x.end(0);
            c.due("it stays until the next program()", x.fault(), k + 1);
        }
        x.program();
        c.due("none of an empty TAPE", x.fault(), 0);
        Check.program(x, "!");
        Check.program(x, TEN);
        c.due("none now", x.fault(), 0);
    }

    private static void line() {
        c.sentence(27, "Of a LINE: 0 what it is (0 load, 1 store, 2 add, 3 mul), 1 the ROW (0 to 7), 2 and 3 its"
                + " NUMBERS, or the ROWS of which. BAD.");
        BankStore x = with("load a 0 1;load h 999 99;store a 999 99;store h 0 1;add a a h;mul h h a;");
        int[][] due = {{0, 0, 0, 1}, {0, 7, 999, 99}, {1, 0, 999, 99}, {1, 7, 0, 1}, {2, 0, 0, 7}, {3, 7, 7, 0}};
        for (int k = 0; k < 6; k++) {
            for (int what = 0; what < 4; what++) {
                c.due("line " + k + ", what " + what, x.line(k, what), due[k][what]);
            }
        }
        for (int what = 0; what < 4; what++) {
            for (int k : Check.outside(0, 5)) {
                c.due("k " + k + ", what " + what, x.line(k, what), BAD);
            }
            c.due("no lines, what " + what, new BankStore().line(0, what), BAD);
        }
        for (int what : Check.outside(0, 3)) {
            c.due("what " + what, x.line(0, what), BAD);
        }
        BankStore most = with(TEN.repeat(16));
        c.due("the 16th", most.line(15, 3), 1);
        c.due("no 17th", most.line(16, 3), BAD);
        Check.program(most, TEN);
        c.due("one that was told ahead is gone", most.line(1, 0), BAD);
    }

    private static void time() {
        c.sentence(28, "THE PROGRAM with L elements: THE END (k NONE), END of LINE k. BAD.");
        BankStore x = with("load a 0 1;add b a a;");
        c.due("THE END", x.time(1, true, NONE), 7);
        c.due("the first LINE", x.time(1, true, 0), 4);
        c.due("the last LINE", x.time(1, true, 1), 7);
        for (int k : new int[] {-1, -2, -3, -5, -6, 2, 16, Integer.MIN_VALUE, Integer.MAX_VALUE}) {
            c.due("k " + k, x.time(1, true, k), BAD);
        }
        for (int l : Check.outside(1, 64)) {
            c.due("L " + l, x.time(l, false, NONE), BAD);
            c.due("L " + l + " of LINE 0", x.time(l, false, 0), BAD);
        }
        BankStore none = new BankStore();
        c.due("no lines: THE END", none.time(64, false, NONE), 0);
        c.due("no lines: no LINE 0", none.time(64, false, 0), BAD);
        c.due("no lines: L 0", none.time(0, false, NONE), BAD);
        c.due("no lines: L 65", none.time(65, false, NONE), BAD);
    }

    private static void when() {
        c.sentence(29, "The beat in which element e of LINE k goes into its unit (what 0), when what it makes is"
                + " there (1). BAD.");
        BankStore x = with("load a 0 1;mul b a a;");
        c.due("the first of the first", x.when(64, true, 0, 0, 0), 0);
        c.due("the last of the last", x.when(64, true, 1, 63, 0), 67);
        c.due("the last of the last, there", x.when(64, true, 1, 63, 1), 72);
        for (int k : Check.outside(0, 1)) {
            c.due("k " + k, x.when(1, true, k, 0, 0), BAD);
        }
        c.due("k NONE", x.when(1, true, NONE, 0, 0), BAD);
        for (int l : new int[] {1, 5, 64}) {
            for (int e : Check.outside(0, l - 1)) {
                c.due("L " + l + ", e " + e, x.when(l, true, 0, e, 0), BAD);
            }
        }
        for (int what : Check.outside(0, 1)) {
            c.due("what " + what, x.when(1, true, 0, 0, what), BAD);
        }
        c.due("no lines", new BankStore().when(1, true, 0, 0, 0), BAD);
    }

    private static void used() {
        c.sentence(30, "Beats in which the PORT (unit 0), the ADDER (1), the MULTIPLIER (2) takes an element, by"
                + " all beats up to THE END: what 0 the first, 1 the second. BAD.");
        BankStore x = with("load a 0 1;store a 4 1;mul b a a;");
        int[] lines = {2, 0, 1};
        for (int unit = 0; unit < 3; unit++) {
            for (int l = 1; l <= 64; l += 63) {
                c.due("unit " + unit + ", L " + l, x.used(l, true, unit, 0), lines[unit] * l);
                c.due("unit " + unit + ", L " + l + ", of all", x.used(l, true, unit, 1), x.time(l, true, NONE));
            }
            c.due("no lines, unit " + unit, new BankStore().used(64, true, unit, 0), 0);
            c.due("no lines, unit " + unit + ", of all", new BankStore().used(64, true, unit, 1), 0);
        }
        c.due("one beat each", x.used(1, true, 2, 1), 9);
        c.due("the PORT, most", with(TEN.repeat(16)).used(64, false, 0, 0), 1024);
        for (int unit : Check.outside(0, 2)) {
            c.due("unit " + unit, x.used(1, true, unit, 0), BAD);
            c.due("unit " + unit + ", of all", x.used(1, true, unit, 1), BAD);
        }
        for (int what : Check.outside(0, 1)) {
            c.due("what " + what, x.used(1, true, 0, what), BAD);
        }
    }

    private static void tuned() {
        c.sentence(31, "The LAW 0 (a, b below M) with which THE PROGRAM ends first: a (what 0), b (1), THE END (2);"
                + " of several the first by a, then b. BAD.");
        BankStore none = new BankStore();
        for (int what = 0; what < 3; what++) {
            c.due("no lines: all alike, what " + what, none.tuned(64, false, what), 0);
        }
        BankStore one = with("load a 0 1;");
        one.banks(1);
        int[] only = {0, 0, 3 * 4};
        // With 2 BANKS rows need b 1; a 0 and a 1 do alike in one row.
        int[] two = {0, 1, 4 + 1 + 4};
        for (int what = 0; what < 3; what++) {
            c.due("one BANK: one law, what " + what, one.tuned(3, true, what), only[what]);
        }
        one.banks(2);
        one.law(2, 0, 0);
        for (int what = 0; what < 3; what++) {
            c.due("two BANKS, what " + what, one.tuned(4, true, what), two[what]);
        }
        c.due("L 1", one.tuned(1, false, 2), 4);
        c.due("L 64", one.tuned(64, false, 2), 32 * 4 - 3 + 4);
        one.table(16, 1);
        // One column: a parts its CELLS, b does not.
        c.due("of another TABLE: a", one.tuned(4, true, 0), 1);
        c.due("of another TABLE: b", one.tuned(4, true, 1), 0);
        tunedIsTheFirst("load a 0 15;load b 1 8;", 17);
        tunedIsTheFirst("load a 3 7;load b 0 99;store a 5 17;", 16);
        tunedIsTheFirst("load a 0 8;", 3);
        for (int what : Check.outside(0, 2)) {
            c.due("what " + what, one.tuned(1, true, what), BAD);
            c.due("what " + what + ", no lines", none.tuned(1, true, what), BAD);
        }
    }

    private static void tunedIsTheFirst(String text, int m) {
        int[] best = {-1, -1, Integer.MAX_VALUE};
        for (int a = 0; a < m; a++) {
            BankStore x = with(text);
            x.banks(m);
            for (int b = 0; b < m; b++) {
                x.law(0, a, b);
                int ends = x.time(20, true, NONE);
                if (ends < best[2]) {
                    best = new int[] {a, b, ends};
                }
            }
        }
        BankStore x = with(text);
        x.banks(m);
        for (int what = 0; what < 3; what++) {
            c.due("[" + text + "] with " + m + ", what " + what, x.tuned(20, true, what), best[what]);
        }
    }
}
