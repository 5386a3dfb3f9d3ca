import java.nio.charset.StandardCharsets;

/** Counts the answers that are not as due, prints each of them, and ends a test. */
final class Due {
    private final String test;
    private int asked;
    private int wrong;

    Due(String test) {
        this.test = test;
    }

    void is(String call, long got, long want) {
        asked++;
        if (got != want) {
            wrong++;
            System.out.println(test + ": " + call + " answered " + got + ", due is " + want);
        }
    }

    void is(String call, boolean got, boolean want) {
        is(call, got ? 1 : 0, want ? 1 : 0);
    }

    void holds(String what, boolean so) {
        is(what, so, true);
    }

    void end() {
        System.out.println(test + ": " + asked + " answers, " + wrong + " of them not as due");
        if (wrong != 0 || asked == 0) {
            System.exit(1);
        }
    }

    /** Hands a text over, byte by byte. */
    static void give(ClueLogic logic, String text) {
        for (byte b : text.getBytes(StandardCharsets.ISO_8859_1)) {
            logic.unit(b & 255);
        }
    }

    static int read(ClueLogic logic, String text) {
        give(logic, text);
        return logic.read();
    }

    static ClueLogic of(String text) {
        ClueLogic logic = new ClueLogic();
        int answer = read(logic, text);
        if (answer < 0) {
            throw new IllegalStateException("not read: " + text + " answered " + answer);
        }
        return logic;
    }
}
