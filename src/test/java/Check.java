/** What the tests share: answers compared with those that are due, and texts put on THE TAPE. */
final class Check {
    private int wrong = 0;
    private int asked = 0;
    private String promise = "";

    /** The promise that the rows behind this one are about. */
    void promise(int number) {
        promise = "promise " + number;
    }

    void due(String call, long got, long want) {
        asked++;
        if (got != want) {
            wrong++;
            System.out.println(promise + ": " + call + " answered " + got + ", due is " + want);
        }
    }

    void holds(String what, boolean fine) {
        due(what, fine ? 1 : 0, 1);
    }

    void finish() {
        System.out.println(wrong == 0 ? asked + " answers are as due" : wrong + " of " + asked + " answers are not as due");
        if (wrong != 0) {
            System.exit(1);
        }
    }

    /** Puts a text behind THE TAPE; the blanks that fill its last eight bytes are cut off again. */
    static void tell(BankStore x, String text) {
        int had = x.count(9);
        for (int k = 0; k < text.length(); k += 8) {
            x.feed(eight(text, k));
        }
        x.end(had + text.length());
    }

    static long eight(String text, int from) {
        long v = 0;
        for (int k = from; k < from + 8; k++) {
            v = v << 8 | (k < text.length() ? text.charAt(k) & 255 : ' ');
        }
        return v;
    }

    static int program(BankStore x, String text) {
        tell(x, text);
        return x.program();
    }
}
