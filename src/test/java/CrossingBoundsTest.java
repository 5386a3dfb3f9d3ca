/**
 * The bounds of crossing out, of cross(), step(), may() and mayBe(): a test for each piece of the
 * document that names one. No object gets more than 512 calls.
 */
public final class CrossingBoundsTest {
    /** A clue that always holds, and so crosses nothing out. */
    private static final String ALWAYS = "|t0~t0;";
    private static final String MANY_STEPS = "433;p0+a1c3;p1=c2b3;+b3b0;!b1b2;=a3b2;|<b2c0<c1c0;t2;!b2b0;+a0a3;~<b0c0;"
            + "+c1c3;&!b2c1+a2b1;+a0c0;t0;!a0b0;=b3a2;p0p0=c2a3;=c3b1;<a1b0;";
    /** Clue and number of each, as the Oracle finds them; in the end nothing is left. */
    private static final int[] THE_STEPS = {
        5, 1, 6, 1, 9, 1, 10, 1, 13, 1, 16, 1, 4, 1, 8, 1, 18, 1, 8, 1, 11, 1, 2, 1, 4, 1, 8, 1, 15, 1, 2, 1,
        9, 1, 10, 1, 17, 1, 10, 1, 18, 2, 8, 2, 4, 2, 2, 1, 5, 2, 1, 1, 10, 2, 9, 3, 11, 2, 0, 2, 12, 15};

    private static final Due due = new Due("CrossingBoundsTest");

    public static void main(String[] args) {
        atFirst();
        open();
        firstOfTheClues();
        allThatIsSoInNone();
        nothingIsLeft();
        asLongAsThereIsOne();
        fromTheBeginning();
        steps();
        noSuchStep();
        stepsBeforeCross();
        may();
        mayBeforeCross();
        noSuchThingOrKind();
        mayBe();
        noSuchPerson();
        due.end();
    }

    private static void atFirst() {
        due.by("of each kind each thing MAY have all values, each person may be truthful or not, at first.");
        for (int n = 1; n <= 4; n++) {
            for (int k = 0; k <= 3; k++) {
                for (int m = 0; m <= 3; m++) {
                    ClueLogic logic = Due.of("" + n + k + m + ";");
                    showsAll(logic, n, k, m);
                    due.is("cross() without clues", logic.cross(), 0);
                    showsAll(logic, n, k, m);
                }
            }
        }
    }

    private static void showsAll(ClueLogic logic, int n, int k, int m) {
        String head = " of " + n + k + m;
        for (int i = 0; i < 5; i++) {
            for (int kind = 0; kind < 4; kind++) {
                boolean there = i < n && kind < k;
                due.is("may(" + i + ", " + kind + ")" + head, logic.may(i, kind), there ? (1 << n) - 1 : -1);
            }
            due.is("mayBe(" + i + ")" + head, logic.mayBe(i), i < m ? 3 : -1);
        }
    }

    private static void open() {
        due.by("A state is OPEN when all things have values that they may have, and all persons are as they may be.");
        crosses("211;p0<a0a1;");
        crosses("211;t0;p0<a0a1;", 0, 1, 1, 2);
        crosses("211;~t0;p0<a0a1;", 0, 1, 1, 2);
        crosses("211;<a0a1;p0<a0a1;", 0, 2, 1, 1);
        crosses("220;=a0b0;");
        crosses("220;<a0a1;=a0b0;", 0, 2, 1, 2);
        crosses("102;t0;p0t1;", 0, 1, 1, 1);
        crosses("102;~t0;p0t1;", 0, 1, 1, 1);
        crosses("310;<a0a1;<a1a2;", 0, 2, 1, 4);
        due.is("mayBe(0) behind what is so", crossed("211;<a0a1;p0<a0a1;").mayBe(0), 2);
        due.is("mayBe(0) behind what is not so", crossed("211;<a1a0;p0<a0a1;").mayBe(0), 1);
        due.is("may(0, 0) of a truthful person's saying", crossed("211;t0;p0<a0a1;").may(0, 0), 1);
        due.is("may(0, 0) of a liar's saying", crossed("211;~t0;p0<a0a1;").may(0, 0), 2);
    }

    private static void firstOfTheClues() {
        due.by("A step: of the clues in order the first one by which something can be crossed out");
        crosses("102;t0;t1;", 0, 1, 1, 1);
        crosses("102;t1;t0;", 0, 1, 1, 1);
        crosses("102;p0t1;t1;", 1, 1, 0, 1);
        crosses("102;&t0t1;t0;", 0, 2);
        crosses("102;t0;&t0t1;", 0, 1, 1, 1);
        crosses("103;p0t1;p1t2;t2;", 2, 1, 1, 1, 0, 1);
        crosses("103;t2;p1t2;p0t1;", 0, 1, 1, 1, 2, 1);
        crosses("310;<a1a2;<a0a1;", 0, 2, 1, 4);
        for (int place = 0; place < 20; place++) {
            crosses("101;" + ALWAYS.repeat(place) + "t0;" + ALWAYS.repeat(19 - place), place, 1);
        }
        crosses(MANY_STEPS, THE_STEPS);
    }

    private static void allThatIsSoInNone() {
        due.by("all that is so in no open state in which that clue holds "
                + "(a value of a thing, that a person is truthful, that one is not).");
        crosses("210;<a0a1;", 0, 2);
        crosses("310;<a0a1;", 0, 2);
        crosses("410;<a0a1;", 0, 2);
        crosses("410;&<a0a1<a1a2;", 0, 6);
        crosses("410;&<a0a1&<a1a2<a2a3;", 0, 12);
        crosses("410;+a0a1;");
        crosses("310;&+a0a1+a1a2;", 0, 4);
        crosses("101;t0;", 0, 1);
        crosses("101;~t0;", 0, 1);
        crosses("213;&&t0~t1<a0a1;", 0, 4);
        crosses("101;t0;t0;", 0, 1);
        crosses("110;=a0a0;");
        crosses("102;|t0t1;");
        ClueLogic logic = crossed("213;&&t0~t1<a0a1;");
        due.is("mayBe(0)", logic.mayBe(0), 2);
        due.is("mayBe(1)", logic.mayBe(1), 1);
        due.is("mayBe(2)", logic.mayBe(2), 3);
        due.is("may(0, 0)", logic.may(0, 0), 1);
        due.is("may(1, 0)", logic.may(1, 0), 2);
    }

    private static void nothingIsLeft() {
        due.by("all that is so in no open state in which that clue holds");
        for (int n = 1; n <= 4; n++) {
            for (int k = 0; k <= 3; k++) {
                for (int m = k == 0 ? 1 : 0; m <= 3; m++) {
                    String never = k > 0 ? "!a0a0;" : "&t0~t0;";
                    String head = "" + n + k + m + ";";
                    crosses(head + never, 0, k * n * n + 2 * m);
                    crosses(head + never + never, 0, k * n * n + 2 * m);
                    ClueLogic logic = crossed(head + never);
                    for (int i = 0; i < 4; i++) {
                        due.is("may(" + i + ", 0) of " + head, logic.may(i, 0), i < n && k > 0 ? 0 : -1);
                        due.is("may(0, " + i + ") of " + head, logic.may(0, i), i < k ? 0 : -1);
                        due.is("mayBe(" + i + ") of " + head, logic.mayBe(i), i < m ? 0 : -1);
                    }
                }
            }
        }
        crosses("211;t0;~t0;", 0, 1, 1, 5);
        crosses("211;t0;~t0;t0;<a0a1;", 0, 1, 1, 5);
    }

    private static void asLongAsThereIsOne() {
        due.by("As long as there is one.");
        due.is("cross() of a new object", new ClueLogic().cross(), 0);
        crosses("433;");
        crosses("101;" + ALWAYS.repeat(20));
        crosses("102;p0t1;p1t0;");
        crosses("102;p0t1;p0~t1;");
        crosses(MANY_STEPS, THE_STEPS);
        due.is("cross() of many steps", Due.of(MANY_STEPS).cross(), 31);
        ClueLogic logic = crossed(MANY_STEPS);
        for (int i = 0; i < 3; i++) {
            due.is("may(3, " + i + ") in the end", logic.may(3, i), 0);
            due.is("mayBe(" + i + ") in the end", logic.mayBe(i), 0);
        }
        // The last clue holds in no state that is still open, so that what is left goes, and then there is none.
        crosses("103;t0;~t1;t2;~t0;", 0, 1, 1, 1, 2, 1, 3, 3);
    }

    private static void fromTheBeginning() {
        due.by("CROSSING OUT, from the beginning: how many steps.");
        ClueLogic logic = Due.of("310;<a0a1;<a1a2;");
        for (int i = 0; i < 3; i++) {
            due.is("cross() for time " + i, logic.cross(), 2);
            due.is("step(0, 1)", logic.step(0, 1), 2);
            due.is("step(1, 1)", logic.step(1, 1), 4);
            due.is("step(2, 0)", logic.step(2, 0), -1);
            due.is("may(1, 0)", logic.may(1, 0), 2);
            due.is("run()", logic.run(), 1);
        }
        due.is("read() of a bad text", Due.read(logic, "310;<a0"), -8);
        due.is("cross() behind a refused read()", logic.cross(), 2);
        due.is("read()", Due.read(logic, "310;<a1a0;"), 1);
        due.is("cross() behind read()", logic.cross(), 1);
        due.is("may(0, 0)", logic.may(0, 0), 6);
        due.is("may(2, 0)", logic.may(2, 0), 5);
    }

    private static void steps() {
        due.by("Of step k (from 0 on): 0 its clue, 1 how much it crossed out");
        ClueLogic logic = crossed("213;~t1;<a0a1;&t2p0~t1;");
        due.is("step(0, 0)", logic.step(0, 0), 0);
        due.is("step(0, 1)", logic.step(0, 1), 1);
        due.is("step(1, 0)", logic.step(1, 0), 1);
        due.is("step(1, 1)", logic.step(1, 1), 2);
        due.is("step(2, 0)", logic.step(2, 0), 2);
        due.is("step(2, 1)", logic.step(2, 1), 2);
        logic = crossed(MANY_STEPS);
        due.is("step(30, 0)", logic.step(30, 0), 12);
        due.is("step(30, 1)", logic.step(30, 1), 15);
        int crossed = 0;
        for (int k = 0; k < 31; k++) {
            crossed += logic.step(k, 1);
        }
        due.is("all that was crossed out", crossed, 54);
    }

    private static void noSuchStep() {
        due.by("Of step k (from 0 on): 0 its clue, 1 how much it crossed out; -1 when there is none such.");
        for (String text : new String[] {"433;", "101;t0;", "433;!a0a0;", "103;t0;t1;t2;"}) {
            ClueLogic logic = Due.of(text);
            int steps = logic.cross();
            for (int k : new int[] {-1, -2, steps, steps + 1, 53, 54, 55, 100, 1 << 30, Integer.MAX_VALUE, Integer.MIN_VALUE}) {
                due.is("step(" + k + ", 0) of " + text, logic.step(k, 0), -1);
                due.is("step(" + k + ", 1) of " + text, logic.step(k, 1), -1);
            }
            for (int k = 0; k < steps; k++) {
                due.is("step(" + k + ", 2) of " + text, logic.step(k, 2), -1);
                due.is("step(" + k + ", 3) of " + text, logic.step(k, 3), -1);
                for (int never : Due.NEVER) {
                    due.is("step(" + k + ", " + never + ") of " + text, logic.step(k, never), -1);
                }
            }
        }
        ClueLogic logic = crossed(MANY_STEPS);
        due.is("step(31, 0)", logic.step(31, 0), -1);
        due.is("step(31, 1)", logic.step(31, 1), -1);
    }

    private static void stepsBeforeCross() {
        due.by("CROSSING OUT, from the beginning");
        ClueLogic logic = Due.of("101;t0;");
        logic.run();
        logic.spare(0);
        due.is("step(0, 0) before cross()", logic.step(0, 0), -1);
        due.is("step(0, 1) before cross()", logic.step(0, 1), -1);
        due.is("cross()", logic.cross(), 1);
        due.is("step(0, 0)", logic.step(0, 0), 0);
        due.is("step(0, 1)", logic.step(0, 1), 1);
    }

    private static void may() {
        due.by("The values of a kind that a thing MAY have behind cross(), as bits");
        ClueLogic logic = crossed("420;<a0a1;<a1a2;<a2a3;=a0b3;=a1b2;=a2b1;");
        for (int thing = 0; thing < 4; thing++) {
            due.is("may(" + thing + ", 0)", logic.may(thing, 0), 1 << thing);
            due.is("may(" + thing + ", 1)", logic.may(thing, 1), 8 >> thing);
        }
        logic = crossed("410;&<a0a1<a1a2;");
        int[] left = {9, 11, 14, 12};
        for (int thing = 0; thing < 4; thing++) {
            due.is("may(" + thing + ", 0)", logic.may(thing, 0), left[thing]);
        }
        due.is("may(0, 0) of one thing", crossed("110;=a0a0;").may(0, 0), 1);
        due.is("may(0, 0) of nothing left", crossed("110;!a0a0;").may(0, 0), 0);
        due.is("may(3, 2) of all", crossed("430;").may(3, 2), 15);
    }

    private static void mayBeforeCross() {
        due.by("(all before)");
        ClueLogic logic = Due.of("421;<a0b0;t0;");
        logic.run();
        logic.often(0, 0, 0);
        due.is("may(3, 0) before cross()", logic.may(3, 0), 15);
        due.is("may(0, 1) before cross()", logic.may(0, 1), 15);
        due.is("mayBe(0) before cross()", logic.mayBe(0), 3);
        due.is("cross()", logic.cross(), 2);
        due.is("may(3, 0)", logic.may(3, 0), 14);
        due.is("may(0, 1)", logic.may(0, 1), 14);
        due.is("mayBe(0)", logic.mayBe(0), 2);
        due.is("read()", Due.read(logic, "421;<a0b0;t0;"), 2);
        due.is("may(3, 0) behind read()", logic.may(3, 0), 15);
        due.is("mayBe(0) behind read()", logic.mayBe(0), 3);
    }

    private static void noSuchThingOrKind() {
        due.by("-1 when there is no such thing or kind.");
        for (String head : new String[] {"433;", "433;!a0a0;", "110;", "100;"}) {
            ClueLogic logic = crossed(head);
            for (int never : Due.NEVER) {
                due.is("may(" + never + ", 0) of " + head, logic.may(never, 0), -1);
                due.is("may(0, " + never + ") of " + head, logic.may(0, never), -1);
                due.is("may(" + never + ", " + never + ") of " + head, logic.may(never, never), -1);
            }
        }
        for (int n = 1; n <= 4; n++) {
            ClueLogic logic = Due.of(n + "20;");
            due.is("may(" + n + ", 0) before cross()", logic.may(n, 0), -1);
            due.is("may(0, 2) before cross()", logic.may(0, 2), -1);
            due.is("may(" + (n - 1) + ", 1) before cross()", logic.may(n - 1, 1), (1 << n) - 1);
        }
    }

    private static void mayBe() {
        due.by("What a person may be behind cross(), as bits: 1 not truthful, 2 truthful");
        ClueLogic logic = crossed("103;~t0;t1;");
        due.is("mayBe(0)", logic.mayBe(0), 1);
        due.is("mayBe(1)", logic.mayBe(1), 2);
        due.is("mayBe(2)", logic.mayBe(2), 3);
        logic = crossed("103;~t2;t0;");
        due.is("mayBe(0)", logic.mayBe(0), 2);
        due.is("mayBe(1)", logic.mayBe(1), 3);
        due.is("mayBe(2)", logic.mayBe(2), 1);
        logic = crossed("103;&t0~t0;");
        for (int person = 0; person < 3; person++) {
            due.is("mayBe(" + person + ") of nothing left", logic.mayBe(person), 0);
        }
    }

    private static void noSuchPerson() {
        due.by("1 not truthful, 2 truthful; -1 when there is none such.");
        for (String head : new String[] {"433;", "433;!a0a0;", "101;", "100;"}) {
            ClueLogic logic = crossed(head);
            for (int never : Due.NEVER) {
                due.is("mayBe(" + never + ") of " + head, logic.mayBe(never), -1);
            }
            due.is("mayBe(3) of " + head, logic.mayBe(3), -1);
        }
        for (int m = 0; m <= 3; m++) {
            due.is("mayBe(" + m + ") of " + m + " persons", Due.of("10" + m + ";").mayBe(m), -1);
            due.is("mayBe(" + (m - 1) + ") of " + m + " persons", Due.of("10" + m + ";").mayBe(m - 1), m > 0 ? 3 : -1);
        }
    }

    private static ClueLogic crossed(String text) {
        ClueLogic logic = Due.of(text);
        logic.cross();
        return logic;
    }

    /** The steps are these: the clue of each and how much it crosses out. */
    private static void crosses(String text, int... want) {
        ClueLogic logic = Due.of(text);
        due.is("cross() of " + text, logic.cross(), want.length / 2);
        for (int k = 0; k < want.length / 2; k++) {
            due.is("step(" + k + ", 0) of " + text, logic.step(k, 0), want[2 * k]);
            due.is("step(" + k + ", 1) of " + text, logic.step(k, 1), want[2 * k + 1]);
        }
        due.is("step behind the last of " + text, logic.step(want.length / 2, 0), -1);
    }
}
