import java.nio.charset.StandardCharsets;

/** Counts the answers that are not as due, prints each of them, and ends a test. */
final class Due {
    /** Never a thing, kind, value or person; some of them would be one when shifted or multiplied with wrap-around. */
    static final int[] NEVER = {
        -1, -2, 4, 5, 8, 16, 31, 32, 33, 64, 100, 255, 256, 1 << 28, 1 << 29, 1 << 30, 1431655766, -1431655765,
        Integer.MAX_VALUE, Integer.MIN_VALUE, Integer.MIN_VALUE + 1};

    private final String test;
    private String words = "";
    private int asked;
    private int askedByWords;
    private int wrong;

    Due(String test) {
        this.test = test;
    }

    /** What is asked from here on is due by these words of the document. */
    void by(String words) {
        endWords();
        this.words = words;
        askedByWords = 0;
    }

    void is(String call, long got, long want) {
        asked++;
        askedByWords++;
        if (got != want) {
            tell(call + " answered " + got + ", due is " + want);
        }
    }

    void is(String call, boolean got, boolean want) {
        is(call, got ? 1 : 0, want ? 1 : 0);
    }

    void is(String what, String got, String want) {
        asked++;
        askedByWords++;
        if (!got.equals(want)) {
            tell(what + " is '" + got + "', due is '" + want + "'");
        }
    }

    void holds(String what, boolean so) {
        is(what, so, true);
    }

    void end() {
        endWords();
        System.out.println(test + ": " + asked + " answers, " + wrong + " of them not as due");
        if (wrong != 0 || asked == 0) {
            System.exit(1);
        }
    }

    private void endWords() {
        if (!words.isEmpty() && askedByWords == 0) {
            tell("nothing was asked");
        }
    }

    private void tell(String what) {
        wrong++;
        System.out.println(test + ": " + what + (words.isEmpty() ? "" : ", by \"" + words + "\""));
    }

    /** Hands a text over, byte by byte. */
    static void give(ClueLogic logic, String text) {
        for (byte b : text.getBytes(StandardCharsets.ISO_8859_1)) {
            logic.unit(b & 255);
        }
    }

    static int read(ClueLogic logic, String text) {
        give(logic, text);
        return logic.read();
    }

    static ClueLogic of(String text) {
        ClueLogic logic = new ClueLogic();
        int answer = read(logic, text);
        if (answer < 0) {
            throw new IllegalStateException("not read: " + text + " answered " + answer);
        }
        return logic;
    }
}
