import java.io.IOException;
import java.io.UncheckedIOException;
import java.nio.file.Files;
import java.nio.file.Path;

/** What the tests share: answers compared with those that are due, and texts put on THE TAPE. */
final class Check {
    private static final Path DOCUMENT = Path.of("../shared/DOC.md");

    private int wrong = 0;
    private int asked = 0;
    private String promise = "";

    /** The promise that the rows behind this one are about. */
    void promise(int number) {
        promise = "promise " + number;
    }

    /** The sentence that the rows behind this one are about, in the document's own words; 0: one of its Terms. */
    void sentence(int number, String words) {
        promise = (number == 0 ? "terms" : "promise " + number) + " [" + words + "]";
        holds("stands in the document", section(number).contains(words));
    }

    /** What the document says as one promise, or as its Terms (0), with one blank between its words. */
    static String section(int number) {
        String text = document();
        String head = number == 0 ? "## Terms" : "## Promise " + number + ":";
        int from = text.indexOf(head);
        int behind = text.indexOf("\n## ", from + 1);
        return from < 0 ? "" : text.substring(from, behind).replaceAll("\\s+", " ");
    }

    static String document() {
        try {
            return Files.readString(DOCUMENT);
        } catch (IOException e) {
            throw new UncheckedIOException(e);
        }
    }

    void due(String call, long got, long want) {
        asked++;
        if (got != want) {
            wrong++;
            System.out.println(promise + ": " + call + " answered " + got + ", due is " + want);
        }
    }

    void holds(String what, boolean fine) {
        due(what, fine ? 1 : 0, 1);
    }

    void finish() {
        System.out.println(wrong == 0 ? asked + " answers are as due"
                : wrong + " of " + asked + " answers are not as due");
        if (wrong != 0) {
            System.exit(1);
        }
    }

    /**
     * Numbers that are not from least to most: those just beside, as far off as can be, and some whose lowest
     * bits alone would be within.
     */
    static int[] outside(int least, int most) {
        return new int[] {least - 1, most + 1, Integer.MIN_VALUE, Integer.MAX_VALUE, Integer.MIN_VALUE + least,
            least - 256, most + 256, least + 65536};
    }

    /** Puts a text behind THE TAPE; the blanks that fill its last eight bytes are cut off again. */
    static void tell(BankStore x, String text) {
        int had = x.count(9);
        for (int k = 0; k < text.length(); k += 8) {
            x.feed(eight(text, k));
        }
        x.end(had + text.length());
    }

    static long eight(String text, int from) {
        long v = 0;
        for (int k = from; k < from + 8; k++) {
            v = v << 8 | (k < text.length() ? text.charAt(k) & 255 : ' ');
        }
        return v;
    }

    static int program(BankStore x, String text) {
        tell(x, text);
        return x.program();
    }

    /** An object with a TABLE of BANKS, its CELLS told row by row, under law 2. */
    static BankStore laid(int h, int w, int m, int... told) {
        BankStore x = new BankStore();
        x.table(h, w);
        x.banks(m);
        x.law(2, 0, 0);
        for (int k = 0; k < told.length; k++) {
            x.lay(k / w, k % w, told[k]);
        }
        return x;
    }
}
