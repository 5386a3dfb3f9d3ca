/** Each promise of the document by itself: ordinary inputs, its edges, wrong inputs. */
public final class PromisesTest {
    private static final int LEAST = Integer.MIN_VALUE;
    private static final int MOST = Integer.MAX_VALUE;

    private static final Due due = new Due("PromisesTest");

    public static void main(String[] args) {
        newObject();
        unit();
        readHead();
        readClues();
        readLimits();
        readKeepsOrForgets();
        told();
        signs();
        run();
        answer();
        truth();
        often();
        spare();
        cross();
        crossEverything();
        step();
        may();
        mayBe();
        due.end();
    }

    /** Promise 1, and the puzzle that is there without a text. */
    private static void newObject() {
        ClueLogic logic = new ClueLogic();
        due.is("told(0)", logic.told(0), 1);
        due.is("told(1)", logic.told(1), 0);
        due.is("told(2)", logic.told(2), 0);
        due.is("read() of no text", logic.read(), -1);
        due.is("answer(0, 0, 0)", logic.answer(0, 0, 0), -1);
        due.is("truth(0, 0)", logic.truth(0, 0), -1);
        due.is("often(0, 0, 0)", logic.often(0, 0, 0), -1);
        due.is("spare(0)", logic.spare(0), false);
        due.is("may(0, 0)", logic.may(0, 0), -1);
        due.is("mayBe(0)", logic.mayBe(0), -1);
        due.is("step(0, 0)", logic.step(0, 0), -1);
        due.is("cross()", logic.cross(), 0);
        due.is("run()", logic.run(), 1);
        due.is("answer(0, 0, 0)", logic.answer(0, 0, 0), -1);
    }

    /** Promise 2. */
    private static void unit() {
        ClueLogic logic = new ClueLogic();
        for (int u : new int[] {-1, 256, 257, 304, MOST, LEAST, LEAST + 49}) {
            due.is("unit(" + u + ")", logic.unit(u), false);
        }
        due.is("read() of no text", logic.read(), -1);
        due.is("unit(0)", logic.unit(0), true);
        due.is("unit(255)", logic.unit(255), true);
        due.is("read()", logic.read(), -1);

        logic = new ClueLogic();
        Due.give(logic, "101;");
        for (int i = 0; i < 296; i++) {
            due.is("unit behind " + (4 + i), logic.unit(i % 3 == 0 ? 't' : i % 3 == 1 ? '0' : ';'), true);
        }
        due.is("unit behind 300", logic.unit(';'), false);
        due.is("unit(-1) behind 300", logic.unit(-1), false);
        due.is("read() of 300", logic.read(), -1 - (4 + 62));
        due.is("unit behind read()", logic.unit('1'), true);
        due.is("read()", logic.read(), -2);

        StringBuilder text = new StringBuilder("103;");
        for (int i = 0; i < 9; i++) {
            text.append("~".repeat(29)).append("t0;");
        }
        text.append("~~~~t1;");
        due.is("length", text.length(), 299);
        logic = new ClueLogic();
        Due.give(logic, text.toString() + "~");
        due.is("unit behind 300", logic.unit('t'), false);
        due.is("read() of 300 that end too soon", logic.read(), -301);
        logic = new ClueLogic();
        Due.give(logic, text.insert(text.length() - 3, '~').toString());
        due.is("unit behind 300", logic.unit('x'), false);
        due.is("read() of 300", logic.read(), 10);
    }

    /** Promise 3: the three digits and their semicolon. */
    private static void readHead() {
        bad("", 0);
        bad("0", 0);
        bad("000;", 0);
        bad("500;", 0);
        bad(" 100;", 0);
        bad(";", 0);
        bad("1", 1);
        bad("1;", 1);
        bad("140;", 1);
        bad("1/0;", 1);
        bad("10", 2);
        bad("104;", 2);
        bad("10:;", 2);
        bad("100", 3);
        bad("1000;", 3);
        bad("100:", 3);
        bad("100;;", 4);
        bad("100; ", 4);
        bad("100;\n", 4);
        good("100;", 0);
        good("433;", 0);
        good("200;", 0);
        good("300;", 0);
    }

    /** Promise 3: the clues. */
    private static void readClues() {
        good("431;=a0b1;!b2c3;<a0a3;+c1c1;t0;p0t0;~t0;&t0t0;|t0t0;", 9);
        good("423;p0p1p2~&|t0t1=a0b3;", 1);
        bad("431;=", 5);
        bad("431;=a", 6);
        bad("431;=a0", 7);
        bad("431;=a0b", 8);
        bad("431;=a0b1", 9);
        bad("431;=a0b1t", 9);
        bad("431;=a0b1 ;", 9);
        bad("431;= a0b1;", 5);
        bad("431;==a0b1;", 5);
        bad("431;=d0b1;", 5);
        bad("431;=A0b1;", 5);
        bad("431;=`0b1;", 5);
        bad("431;=00b1;", 5);
        bad("431;=a4b1;", 6);
        bad("431;=a/b1;", 6);
        bad("431;=aab1;", 6);
        bad("431;=a0d1;", 7);
        bad("431;=a0b4;", 8);
        bad("421;=a0c1;", 7);
        bad("411;=a0b1;", 7);
        bad("401;=a0b1;", 5);
        bad("331;<a3b1;", 6);
        bad("331;<a2b3;", 8);
        bad("131;+a0b1;", 8);
        bad("430;t0;", 5);
        bad("430;p0t0;", 5);
        bad("431;t1;", 5);
        bad("432;t2;", 5);
        bad("433;t3;", 5);
        good("433;t2;", 1);
        bad("433;p3t0;", 5);
        bad("433;p", 5);
        bad("433;p0", 6);
        bad("433;p0;", 6);
        bad("433;p0t", 7);
        bad("433;~", 5);
        bad("433;~;", 5);
        bad("433;~~t0", 8);
        bad("433;&t0;", 7);
        bad("433;&t0", 7);
        bad("433;&t0t1t2;", 9);
        bad("433;|&t0t1;", 10);
        bad("433;|&t0t1x", 10);
        bad("433;x;", 4);
        bad("433;T0;", 4);
        bad("433;a0;", 4);
        bad("433;0;", 4);
        bad("433;t0;;", 7);
        bad("433;t0;t", 8);
        bad("433;t0;433;", 7);
        bad("433;\u0000;", 4);
        bad("433;\u00ff;", 4);
        bad("433;=\u00ff;", 5);
    }

    /** Promise 3: at most 20 clues, at most 30 signs in each. */
    private static void readLimits() {
        good("101;" + "t0;".repeat(20), 20);
        bad("101;" + "t0;".repeat(21), 4 + 62);
        bad("101;" + "t0;".repeat(20) + "t0", 4 + 62);
        bad("101;" + "t0;".repeat(20) + "t", 4 + 61);
        bad("101;" + "t0;".repeat(20) + "x", 4 + 60);
        bad("101;" + "t0;".repeat(20) + ";", 4 + 60);
        bad("101;" + "t0;".repeat(20) + "~t1;", 4 + 62);
        bad("101;" + "t0;".repeat(20) + "~~~~t0;t0;", 4 + 66);
        good("101;" + "~".repeat(29) + "t0;", 1);
        bad("101;" + "~".repeat(30) + "t0;", 4 + 30);
        bad("101;" + "~".repeat(31) + "t0;", 4 + 30);
        bad("101;" + "~".repeat(30) + ";", 4 + 30);
        bad("101;" + "~".repeat(30), 4 + 30);
        good("101;" + "p0".repeat(29) + "t0;", 1);
        bad("101;" + "p0".repeat(30) + "t0;", 4 + 60);
        good("101;~" + "&t0".repeat(14) + "t0;", 1);
        bad("101;" + "&t0".repeat(15) + "t0;", 4 + 45);
        bad("101;|" + "&t0".repeat(14) + "t0t0;", 4 + 1 + 44);
        good("110;~~~" + "&".repeat(13) + "=a0a0!a0a0<a0a0+a0a0".repeat(3) + "=a0a0=a0a0;", 1);
        bad("110;~~~~" + "&".repeat(13) + "=a0a0!a0a0<a0a0+a0a0".repeat(3) + "=a0a0=a0a0;", 4 + 4 + 13 + 65);
        good("101;" + ("~".repeat(29) + "t0;").repeat(9), 9);
        bad("101;t0;" + "~".repeat(30) + "t0;", 4 + 3 + 30);
    }

    /** Promise 3: a text that is refused is gone but changes nothing; one that is read ends all that was found. */
    private static void readKeepsOrForgets() {
        ClueLogic logic = Due.of("221;=a0b1;t0;");
        due.is("run()", logic.run(), 2);
        due.is("cross()", logic.cross(), 1);
        due.is("read() of a bad text", Due.read(logic, "431;=a0b4;"), -9);
        due.is("told(0)", logic.told(0), 2);
        due.is("told(1)", logic.told(1), 2);
        due.is("told(2)", logic.told(2), 1);
        due.is("answer(1, 0, 0)", logic.answer(1, 0, 0), 1);
        due.is("truth(1, 0)", logic.truth(1, 0), 1);
        due.is("step(0, 0)", logic.step(0, 0), 1);
        due.is("mayBe(0)", logic.mayBe(0), 2);
        due.is("read() of no text", logic.read(), -1);
        due.is("spare(0)", logic.spare(0), false);
        due.is("answer(1, 1, 1)", logic.answer(1, 1, 1), 1);

        due.is("read()", Due.read(logic, "221;=a0b1;t0;"), 2);
        due.is("answer(0, 0, 0)", logic.answer(0, 0, 0), -1);
        due.is("truth(0, 0)", logic.truth(0, 0), -1);
        due.is("step(0, 0)", logic.step(0, 0), -1);
        due.is("may(0, 0)", logic.may(0, 0), 3);
        due.is("mayBe(0)", logic.mayBe(0), 3);
        due.is("often(0, 0, 0)", logic.often(0, 0, 0), 1);
        due.is("answer(0, 0, 0) behind often", logic.answer(0, 0, 0), -1);
        due.is("read()", Due.read(logic, "100;"), 0);
        due.is("run()", logic.run(), 1);
        due.is("spare(0)", logic.spare(0), false);
        due.is("cross()", logic.cross(), 0);
        due.is("read()", Due.read(logic, "431;t0;"), 1);
        due.is("run()", logic.run(), 13824);
        due.is("cross()", logic.cross(), 1);
    }

    /** Promise 4. */
    private static void told() {
        ClueLogic logic = Due.of("412;");
        due.is("told(0)", logic.told(0), 4);
        due.is("told(1)", logic.told(1), 1);
        due.is("told(2)", logic.told(2), 2);
        for (int what : Due.NEVER) {
            due.is("told(" + what + ")", logic.told(what), -1);
        }
        due.is("told(3)", logic.told(3), -1);
    }

    /** What each sign means, by the number of answers. */
    private static void signs() {
        answers("420;=a0b0;", 24 * 6);
        answers("420;!a0b0;", 24 * 18);
        answers("410;=a0a0;", 24);
        answers("410;=a0a1;", 0);
        answers("410;!a0a0;", 0);
        answers("410;!a0a1;", 24);
        answers("410;<a0a1;", 12);
        answers("410;<a0a0;", 0);
        answers("410;+a0a1;", 12);
        answers("410;+a0a0;", 0);
        answers("310;+a0a1;", 4);
        answers("210;+a0a1;", 2);
        answers("420;<a0b0;", 24 * 9);
        answers("420;+a0b0;", 24 * 9);
        answers("420;+b3a2;", 24 * 9);
        answers("110;<a0a0;", 0);
        answers("103;t0;", 4);
        answers("103;~t2;", 4);
        answers("103;p0t0;", 8);
        answers("103;p0~t0;", 0);
        answers("103;p0t1;", 4);
        answers("103;p0p1t1;", 4);
        answers("103;p0p1t2;", 4);
        answers("103;p0&t1t2;", 4);
        answers("103;&t1t2;", 2);
        answers("103;|t1t2;", 6);
        answers("103;~|t1t2;", 2);
        answers("103;&t0~t0;", 0);
        answers("103;|t0~t0;", 8);
        answers("411;p0<a0a1;", 24);
        answers("411;&p0<a0a1t0;", 12);
    }

    /** Promise 5. */
    private static void run() {
        answers("100;", 1);
        answers("400;", 1);
        answers("433;", 24 * 24 * 24 * 8);
        answers("330;", 6 * 6 * 6);
        answers("223;", 2 * 2 * 8);
        answers("133;", 8);
        answers("101;t0;~t0;", 0);
        ClueLogic logic = Due.of("330;=a0b0;=b0c0;");
        due.is("run()", logic.run(), 24);
        due.is("run() again", logic.run(), 24);
        due.is("cross()", logic.cross(), 0);
        due.is("run() behind cross()", logic.run(), 24);
    }

    /** Promise 6: the order of the answers, and how many are kept. */
    private static void answer() {
        ClueLogic logic = Due.of("320;");
        due.is("answer(0, 0, 0) before run()", logic.answer(0, 0, 0), -1);
        due.is("run()", logic.run(), 36);
        int[][] orders = {{0, 1, 2}, {0, 2, 1}, {1, 0, 2}, {1, 2, 0}, {2, 0, 1}, {2, 1, 0}};
        for (int k = 0; k < 36; k++) {
            for (int thing = 0; thing < 3; thing++) {
                due.is("answer(" + k + ", " + thing + ", 0)", logic.answer(k, thing, 0), orders[k / 6][thing]);
                due.is("answer(" + k + ", " + thing + ", 1)", logic.answer(k, thing, 1), orders[k % 6][thing]);
            }
        }
        due.is("answer(36, 0, 0)", logic.answer(36, 0, 0), -1);
        due.is("answer(0, 3, 0)", logic.answer(0, 3, 0), -1);
        due.is("answer(0, 0, 2)", logic.answer(0, 0, 2), -1);
        for (int never : Due.NEVER) {
            due.is("answer(0, " + never + ", 0)", logic.answer(0, never, 0), -1);
            due.is("answer(0, 0, " + never + ")", logic.answer(0, 0, never), -1);
        }
        for (int never : new int[] {-1, 36, 99, 100, 101, MOST, LEAST}) {
            due.is("answer(" + never + ", 0, 0)", logic.answer(never, 0, 0), -1);
        }
        logic = Due.of("411;");
        due.is("run()", logic.run(), 48);
        due.is("answer(47, 0, 0)", logic.answer(47, 0, 0), 3);
        due.is("answer(48, 0, 0)", logic.answer(48, 0, 0), -1);
        logic = Due.of("420;");
        due.is("run()", logic.run(), 576);
        due.is("answer(99, 0, 0)", logic.answer(99, 0, 0), 0);
        due.is("answer(99, 1, 0)", logic.answer(99, 1, 0), 3);
        due.is("answer(99, 3, 1)", logic.answer(99, 3, 1), 1);
        due.is("answer(100, 0, 0)", logic.answer(100, 0, 0), -1);
    }

    /** Promise 7. */
    private static void truth() {
        ClueLogic logic = Due.of("213;");
        due.is("truth(0, 0) before run()", logic.truth(0, 0), -1);
        due.is("run()", logic.run(), 16);
        for (int k = 0; k < 16; k++) {
            due.is("answer(" + k + ", 0, 0)", logic.answer(k, 0, 0), k / 8);
            for (int person = 0; person < 3; person++) {
                due.is("truth(" + k + ", " + person + ")", logic.truth(k, person), k >> (2 - person) & 1);
            }
        }
        due.is("truth(16, 0)", logic.truth(16, 0), -1);
        due.is("truth(0, 3)", logic.truth(0, 3), -1);
        for (int never : Due.NEVER) {
            due.is("truth(0, " + never + ")", logic.truth(0, never), -1);
        }
        for (int never : new int[] {-1, 16, 99, 100, MOST, LEAST}) {
            due.is("truth(" + never + ", 0)", logic.truth(never, 0), -1);
        }
        logic = Due.of("102;|t0t1;");
        due.is("run()", logic.run(), 3);
        due.is("truth(0, 0)", logic.truth(0, 0), 0);
        due.is("truth(0, 1)", logic.truth(0, 1), 1);
        due.is("truth(1, 0)", logic.truth(1, 0), 1);
        due.is("truth(1, 1)", logic.truth(1, 1), 0);
        due.is("truth(2, 1)", logic.truth(2, 1), 1);
        due.is("truth(2, 2)", logic.truth(2, 2), -1);
        logic = Due.of("412;");
        due.is("run()", logic.run(), 96);
        logic = Due.of("413;");
        due.is("run()", logic.run(), 192);
        due.is("truth(99, 1)", logic.truth(99, 1), 1);
        due.is("truth(100, 1)", logic.truth(100, 1), -1);
    }

    /** Promise 8. */
    private static void often() {
        ClueLogic logic = Due.of("411;<a0a1;");
        int[] withNought = {12, 8, 4, 0};
        for (int thing = 0; thing < 4; thing++) {
            due.is("often(" + thing + ", 0, 0)", logic.often(thing, 0, 0), withNought[thing]);
            due.is("often(" + thing + ", 0, 1)", logic.often(thing, 0, 1), withNought[3 - thing]);
            due.is("often(" + thing + ", 0, 2)", logic.often(thing, 0, 2), 6);
        }
        due.is("run()", logic.run(), 24);
        due.is("often(0, 0, 0) behind run()", logic.often(0, 0, 0), 12);
        due.is("often(0, 1, 0)", logic.often(0, 1, 0), -1);
        for (int never : Due.NEVER) {
            due.is("often(" + never + ", 0, 0)", logic.often(never, 0, 0), -1);
            due.is("often(0, " + never + ", 0)", logic.often(0, never, 0), -1);
            due.is("often(0, 0, " + never + ")", logic.often(0, 0, never), -1);
        }
        logic = Due.of("210;<a0a1;<a1a0;");
        due.is("often(0, 0, 0) of none", logic.often(0, 0, 0), 0);
        due.is("often(2, 0, 0)", logic.often(2, 0, 0), -1);
        due.is("often(0, 0, 2)", logic.often(0, 0, 2), -1);
        logic = Due.of("433;");
        due.is("often(3, 2, 3) of all", logic.often(3, 2, 3), 110592 / 4);
    }

    /** Promise 9. */
    private static void spare() {
        spare("101;t0;t0;", true, true);
        spare("101;t0;|t0~t0;", false, true);
        spare("101;t0;~t0;", false, false);
        spare("101;t0;t0;~t0;", true, true, false);
        spare("101;t0;~t0;&t0~t0;", true, true, true);
        spare("310;<a0a1;<a1a2;<a0a2;", false, false, true);
        spare("102;t0;t1;p0t1;", true, true, true);
        spare("102;t0;p0t1;&t0t0;", true, false, true);
        ClueLogic logic = Due.of("101;" + "t0;".repeat(20));
        due.is("spare(19)", logic.spare(19), true);
        due.is("spare(20)", logic.spare(20), false);
        logic = Due.of("101;|t0~t0;");
        for (int never : Due.NEVER) {
            due.is("spare(" + never + ")", logic.spare(never), false);
        }
        due.is("answer behind spare alone", logic.truth(0, 0), -1);
    }

    /** Promise 10. */
    private static void cross() {
        ClueLogic logic = Due.of("310;<a0a1;<a1a2;");
        due.is("cross()", logic.cross(), 2);
        steps(logic, 0, 2, 1, 4);
        due.is("may(0, 0)", logic.may(0, 0), 1);
        due.is("may(1, 0)", logic.may(1, 0), 2);
        due.is("may(2, 0)", logic.may(2, 0), 4);
        due.is("cross() again", logic.cross(), 2);
        due.is("run() behind cross()", logic.run(), 1);
        steps(logic, 0, 2, 1, 4);

        logic = Due.of("102;|t0t1;~t0;");
        due.is("cross()", logic.cross(), 2);
        steps(logic, 1, 1, 0, 1);
        due.is("mayBe(0)", logic.mayBe(0), 1);
        due.is("mayBe(1)", logic.mayBe(1), 2);

        logic = Due.of("102;p0t1;");
        due.is("cross() of nothing to cross out", logic.cross(), 0);
        logic = Due.of("433;");
        due.is("cross() without clues", logic.cross(), 0);
    }

    /** Promise 10: a clue that holds in no open state crosses out all that is left. */
    private static void crossEverything() {
        ClueLogic logic = Due.of("433;~=a0a0;t0;");
        due.is("cross()", logic.cross(), 1);
        steps(logic, 0, 54);
        for (int i = 0; i < 3; i++) {
            due.is("may(" + i + ", " + i + ")", logic.may(i, i), 0);
            due.is("mayBe(" + i + ")", logic.mayBe(i), 0);
        }
        logic = Due.of("211;t0;~t0;");
        due.is("cross()", logic.cross(), 2);
        steps(logic, 0, 1, 1, 5);
    }

    /** Promise 11. */
    private static void step() {
        ClueLogic logic = Due.of("102;~t1;t0;");
        due.is("step(0, 0) before cross()", logic.step(0, 0), -1);
        due.is("cross()", logic.cross(), 2);
        steps(logic, 0, 1, 1, 1);
        for (int never : new int[] {-1, 2, 3, 53, 54, 55, MOST, LEAST}) {
            due.is("step(" + never + ", 0)", logic.step(never, 0), -1);
            due.is("step(" + never + ", 1)", logic.step(never, 1), -1);
        }
        due.is("step(0, 2)", logic.step(0, 2), -1);
        for (int never : Due.NEVER) {
            due.is("step(0, " + never + ")", logic.step(0, never), -1);
        }
    }

    /** Promise 12. */
    private static void may() {
        ClueLogic logic = Due.of("420;<a0b0;");
        due.is("may(3, 1) before cross()", logic.may(3, 1), 15);
        due.is("run()", logic.run(), 216);
        due.is("may(0, 1) behind run()", logic.may(0, 1), 15);
        due.is("cross()", logic.cross(), 1);
        due.is("may(0, 0)", logic.may(0, 0), 15);
        due.is("may(3, 0)", logic.may(3, 0), 14);
        due.is("may(0, 1)", logic.may(0, 1), 14);
        due.is("may(3, 1)", logic.may(3, 1), 15);
        due.is("may(0, 2)", logic.may(0, 2), -1);
        for (int never : Due.NEVER) {
            due.is("may(" + never + ", 0)", logic.may(never, 0), -1);
            due.is("may(0, " + never + ")", logic.may(0, never), -1);
        }
        logic = Due.of("230;");
        due.is("may(1, 2)", logic.may(1, 2), 3);
        due.is("may(2, 0)", logic.may(2, 0), -1);
        logic = Due.of("130;");
        due.is("may(0, 2)", logic.may(0, 2), 1);
        due.is("may(1, 0)", logic.may(1, 0), -1);
    }

    /** Promise 13. */
    private static void mayBe() {
        ClueLogic logic = Due.of("103;~t0;t2;");
        due.is("mayBe(0) before cross()", logic.mayBe(0), 3);
        due.is("cross()", logic.cross(), 2);
        due.is("mayBe(0)", logic.mayBe(0), 1);
        due.is("mayBe(1)", logic.mayBe(1), 3);
        due.is("mayBe(2)", logic.mayBe(2), 2);
        due.is("mayBe(3)", logic.mayBe(3), -1);
        for (int never : Due.NEVER) {
            due.is("mayBe(" + never + ")", logic.mayBe(never), -1);
        }
        logic = Due.of("101;");
        due.is("mayBe(0)", logic.mayBe(0), 3);
        due.is("mayBe(1)", logic.mayBe(1), -1);
    }

    private static void good(String text, int clues) {
        due.is("read() of " + text, Due.read(new ClueLogic(), text), clues);
    }

    private static void bad(String text, int place) {
        due.is("read() of " + text, Due.read(new ClueLogic(), text), -1 - place);
    }

    private static void answers(String text, int want) {
        due.is("run() of " + text, Due.of(text).run(), want);
    }

    private static void spare(String text, boolean... want) {
        ClueLogic logic = Due.of(text);
        for (int clue = 0; clue < want.length; clue++) {
            due.is("spare(" + clue + ") of " + text, logic.spare(clue), want[clue]);
        }
        due.is("spare(" + want.length + ") of " + text, logic.spare(want.length), false);
    }

    /** The steps one behind the other: the clue of each and how much it crossed out. */
    private static void steps(ClueLogic logic, int... want) {
        for (int k = 0; k < want.length / 2; k++) {
            due.is("step(" + k + ", 0)", logic.step(k, 0), want[2 * k]);
            due.is("step(" + k + ", 1)", logic.step(k, 1), want[2 * k + 1]);
        }
        due.is("step(" + want.length / 2 + ", 0)", logic.step(want.length / 2, 0), -1);
    }
}
