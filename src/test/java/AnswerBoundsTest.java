/**
 * The bounds of states and answers, of run(), answer(), truth(), often() and spare(): a test for each
 * piece of the document that names one. No object gets more than 512 calls.
 */
public final class AnswerBoundsTest {
    private static final int CALLS = 512;
    private static final int[] ORDERS_OF = {1, 1, 2, 6, 24};
    private static final String HUNDRED = "331;<b0a1;|<c1b2=c0b0;";
    /** One state alone: of HUNDRED it is an answer. */
    private static final String IS_ONE = "&&<a0a1<a1a2&&=a0b0=a1b1&=a0c0&=a1c1t0";
    /** One state alone: of HUNDRED it is no answer. */
    private static final String IS_OTHER = "&&<a2a1<a1a0&&=a0b0=a1b1&=a0c0&=a1c1t0";
    private static final String NINETY_NINE = HUNDRED + "~" + IS_ONE + ";";
    private static final String HUNDRED_AND_ONE = "331;|" + IS_OTHER + "&<b0a1|<c1b2=c0b0;";
    /** A clue that always holds, and one that never does. */
    private static final String ALWAYS = "|t0~t0;";
    private static final String NEVER_HOLDS = "&t0~t0;";

    private static final Due due = new Due("AnswerBoundsTest");

    public static void main(String[] args) {
        things();
        kinds();
        values();
        persons();
        states();
        orderOfStates();
        sameThing();
        ahead();
        sideBySide();
        truthfulAndSaying();
        sayingsInSayings();
        joined();
        allCluesHold();
        howManyAnswers();
        answersFromNoughtOn();
        firstHundred();
        noSuchAnswer();
        answersBeforeRun();
        truth();
        noSuchTruth();
        often();
        oftenBeforeRun();
        noSuchOften();
        spare();
        spareOfNoAnswers();
        noSuchClue();
        lastCall();
        due.end();
    }

    private static void things() {
        due.by("N THINGS 0 .. N - 1 (1 to 4) stand in a row");
        for (int n = 1; n <= 4; n++) {
            ClueLogic logic = Due.of(n + "10;");
            logic.run();
            for (int thing = -1; thing <= 5; thing++) {
                boolean there = thing >= 0 && thing < n;
                due.is(n + " things: answer(0, " + thing + ", 0)", logic.answer(0, thing, 0), there ? thing : -1);
                due.is(n + " things: often(" + thing + ", 0, 0)", logic.often(thing, 0, 0), there ? ORDERS_OF[n - 1] : -1);
                due.is(n + " things: may(" + thing + ", 0)", logic.may(thing, 0), there ? (1 << n) - 1 : -1);
            }
        }
    }

    private static void kinds() {
        due.by("of each of K KINDS (0 to 3)");
        for (int k = 0; k <= 3; k++) {
            ClueLogic logic = Due.of("2" + k + "0;");
            logic.run();
            for (int kind = -1; kind <= 4; kind++) {
                boolean there = kind >= 0 && kind < k;
                due.is(k + " kinds: answer(0, 1, " + kind + ")", logic.answer(0, 1, kind), there ? 1 : -1);
                due.is(k + " kinds: often(1, " + kind + ", 1)", logic.often(1, kind, 1), there ? 1 << (k - 1) : -1);
                due.is(k + " kinds: may(1, " + kind + ")", logic.may(1, kind), there ? 3 : -1);
            }
        }
    }

    private static void values() {
        due.by("they have the VALUES 0 .. N - 1, no two things the same one");
        for (int n = 1; n <= 4; n++) {
            ClueLogic logic = Due.of(n + "20;");
            logic.run();
            for (int k = 0; k < Math.min(36, ORDERS_OF[n] * ORDERS_OF[n]); k++) {
                for (int kind = 0; kind < 2; kind++) {
                    int seen = 0;
                    for (int thing = 0; thing < n; thing++) {
                        seen |= 1 << logic.answer(k, thing, kind);
                    }
                    due.is(n + " things: the values of kind " + kind + " in answer " + k, seen, (1 << n) - 1);
                }
            }
        }
    }

    private static void persons() {
        due.by("M PERSONS 0 .. M - 1 (0 to 3) are each truthful or not");
        for (int m = 0; m <= 3; m++) {
            ClueLogic logic = Due.of("10" + m + ";");
            due.is("run() of " + m + " persons", logic.run(), 1 << m);
            for (int person = -1; person <= 4; person++) {
                boolean there = person >= 0 && person < m;
                due.is(m + " persons: truth(0, " + person + ")", logic.truth(0, person), there ? 0 : -1);
                due.is(m + " persons: truth of the last, " + person, logic.truth((1 << m) - 1, person), there ? 1 : -1);
                due.is(m + " persons: mayBe(" + person + ")", logic.mayBe(person), there ? 3 : -1);
            }
        }
    }

    private static void states() {
        due.by("A STATE says which values all things have and who is truthful.");
        for (int n = 1; n <= 4; n++) {
            for (int k = 0; k <= 3; k++) {
                for (int m = 0; m <= 3; m++) {
                    int want = 1 << m;
                    for (int kind = 0; kind < k; kind++) {
                        want *= ORDERS_OF[n];
                    }
                    answers("" + n + k + m + ";", want);
                }
            }
        }
    }

    private static void orderOfStates() {
        due.by("Of two states that is ahead which has the lesser value at the first place where they differ: "
                + "kind by kind, thing by thing; then person by person, not truthful ahead of truthful.");
        for (String head : new String[] {"103;", "213;", "222;", "230;", "312;", "320;", "411;", "412;", "333;", "433;"}) {
            ClueLogic logic = Due.of(head);
            int some = Math.min(24, logic.run());
            String before = "";
            for (int k = 0; k < some; k++) {
                String state = state(logic, k);
                due.holds("in " + head + " " + before + " is ahead of " + state, before.compareTo(state) < 0);
                before = state;
            }
        }
        due.is("answer 0", state(ran("222;"), 0), "010100");
        due.is("answer 3", state(ran("222;"), 3), "010111");
        due.is("answer 4", state(ran("222;"), 4), "011000");
        due.is("answer 8", state(ran("222;"), 8), "100100");
        due.is("the last answer", state(ran("222;"), 15), "101011");
        due.is("the last answer", state(ran("410;"), 23), "3210");
        due.is("answer 99", state(ran("433;"), 99), "012301232013011");
    }

    /** Kind by kind, thing by thing, then person by person. */
    private static String state(ClueLogic logic, int k) {
        StringBuilder state = new StringBuilder();
        int things = logic.told(0);
        int kinds = logic.told(1);
        int persons = logic.told(2);
        for (int kind = 0; kind < kinds; kind++) {
            for (int thing = 0; thing < things; thing++) {
                state.append(logic.answer(k, thing, kind));
            }
        }
        for (int person = 0; person < persons; person++) {
            state.append(logic.truth(k, person));
        }
        return state.toString();
    }

    private static void sameThing() {
        due.by("= when one thing has both; ! when not");
        for (int n = 1; n <= 4; n++) {
            int all = ORDERS_OF[n] * ORDERS_OF[n];
            for (int v = 0; v < n; v++) {
                for (int w = 0; w < n; w++) {
                    String head = n + "20;";
                    int ofOneKind = v == w ? all : 0;
                    answers(head + "=b" + v + "b" + w + ";", ofOneKind);
                    answers(head + "!b" + v + "b" + w + ";", all - ofOneKind);
                    answers(head + "=a" + v + "b" + w + ";", all / n);
                    answers(head + "!a" + v + "b" + w + ";", all - all / n);
                }
            }
        }
    }

    private static void ahead() {
        due.by("< when the thing with v stands ahead of that with w");
        for (int n = 1; n <= 4; n++) {
            int all = ORDERS_OF[n];
            for (int v = 0; v < n; v++) {
                for (int w = 0; w < n; w++) {
                    answers(n + "10;<a" + v + "a" + w + ";", v == w ? 0 : all / 2);
                    answers(n + "20;<a" + v + "b" + w + ";", (all * all - all * all / n) / 2);
                }
            }
        }
        ClueLogic logic = Due.of("410;<a3a0;");
        due.is("often(0, 0, 3)", logic.often(0, 0, 3), 6);
        due.is("often(0, 0, 0)", logic.often(0, 0, 0), 0);
        due.is("often(3, 0, 3)", logic.often(3, 0, 3), 0);
        due.is("often(3, 0, 0)", logic.often(3, 0, 0), 6);
    }

    /** The row has two ends: its first and its last thing stand side by side only when there are two. */
    private static void sideBySide() {
        due.by("+ when they stand side by side, one way or the other.");
        int[] sideBySide = {0, 0, 2, 4, 12};
        for (int n = 1; n <= 4; n++) {
            for (int v = 0; v < n; v++) {
                for (int w = 0; w < n; w++) {
                    answers(n + "10;+a" + v + "a" + w + ";", v == w ? 0 : sideBySide[n]);
                    answers(n + "20;+a" + v + "b" + w + ";", ORDERS_OF[n] * ORDERS_OF[n] * 2 * (n - 1) / (n * n));
                }
            }
        }
        // The things with a0 and b0 are the two ends of the row.
        answers("420;<a0a1;<a0a2;<a0a3;<b1b0;<b2b0;<b3b0;", 36);
        answers("420;<a0a1;<a0a2;<a0a3;<b1b0;<b2b0;<b3b0;+a0b0;", 0);
        answers("320;<a0a1;<a0a2;<b1b0;<b2b0;+a0b0;", 0);
        answers("220;<a0a1;<b1b0;+a0b0;", 1);
        answers("410;<a0a1;<a1a2;<a2a3;+a0a1;+a1a0;+a1a2;+a2a1;+a2a3;+a3a2;", 1);
        answers("410;<a0a1;<a1a2;<a2a3;+a0a2;", 0);
    }

    private static void truthfulAndSaying() {
        due.by("t and a digit: that person is truthful. p, a digit and a clue: that person would say the clue: "
                + "it holds just when the person is truthful.");
        for (int person = 0; person < 3; person++) {
            ClueLogic logic = ran("103;t" + person + ";");
            for (int k = 0; k < 4; k++) {
                due.is("truth(" + k + ", " + person + ")", logic.truth(k, person), 1);
            }
            due.is("truth(4, " + person + ")", logic.truth(4, person), -1);
            answers("103;p" + person + "t" + person + ";", 8);
            answers("103;p" + person + "~t" + person + ";", 0);
            answers("113;p" + person + "=a0a0;", 4);
            answers("113;p" + person + "!a0a0;", 4);
            answers("113;&t" + person + "p" + person + "=a0a0;", 4);
            answers("113;&t" + person + "p" + person + "!a0a0;", 0);
            answers("113;&~t" + person + "p" + person + "!a0a0;", 4);
            answers("113;&~t" + person + "p" + person + "=a0a0;", 0);
        }
        ClueLogic logic = ran("102;p0t1;");
        due.is("answer 0 of p0t1", state(logic, 0), "00");
        due.is("answer 1 of p0t1", state(logic, 1), "11");
        due.is("truth(2, 0) of p0t1", logic.truth(2, 0), -1);
    }

    private static void sayingsInSayings() {
        due.by("that person would say the clue: it holds just when the person is truthful.");
        answers("111;" + "p0".repeat(29) + "=a0a0;", 1);
        due.is("truth of 29 sayings", ran("111;" + "p0".repeat(29) + "=a0a0;").truth(0, 0), 1);
        answers("111;" + "p0".repeat(28) + "=a0a0;", 2);
        answers("111;" + "p0".repeat(28) + "!a0a0;", 0);
        due.is("answer 0 of p0p1t2", state(ran("103;p0p1t2;"), 0), "001");
        due.is("answer 1 of p0p1t2", state(ran("103;p0p1t2;"), 1), "010");
        due.is("answer 2 of p0p1t2", state(ran("103;p0p1t2;"), 2), "100");
        due.is("answer 3 of p0p1t2", state(ran("103;p0p1t2;"), 3), "111");
        answers("103;p0p1t2;", 4);
    }

    private static void joined() {
        due.by("~ and a clue: it does not hold. & and two clues: both hold. | and two clues: one of them or both.");
        all("102;~t0;", "00", "01");
        all("102;~~t0;", "10", "11");
        all("102;&t0t1;", "11");
        all("102;|t0t1;", "01", "10", "11");
        all("102;~&t0t1;", "00", "01", "10");
        all("102;~|t0t1;", "00");
        all("102;&~t0t1;", "01");
        all("102;|~t0t1;", "00", "01", "11");
        all("102;&|t0t1~&t0t1;", "01", "10");
        all("101;" + "~".repeat(29) + "t0;", "0");
        all("101;" + "~".repeat(28) + "t0;", "1");
    }

    private static void all(String text, String... states) {
        ClueLogic logic = Due.of(text);
        due.is("run() of " + text, logic.run(), states.length);
        for (int k = 0; k < states.length; k++) {
            due.is("answer " + k + " of " + text, state(logic, k), states[k]);
        }
    }

    private static void allCluesHold() {
        due.by("AN ANSWER is a state in which all clues hold.");
        for (int clues = 1; clues <= 20; clues++) {
            for (int place = 0; place < clues; place++) {
                String before = "101;" + ALWAYS.repeat(place);
                String behind = ALWAYS.repeat(clues - 1 - place);
                answers(before + "t0;" + behind, 1);
                answers(before + NEVER_HOLDS + behind, 0);
            }
            answers("101;" + ALWAYS.repeat(clues), 2);
        }
        answers("101;", 2);
    }

    private static void howManyAnswers() {
        due.by("All answers are found: how many.");
        answers("433;", 110592);
        answers("433;" + "=a0a0;".repeat(20), 110592);
        answers("433;" + "!a0a0;".repeat(20), 0);
        answers("100;", 1);
        answers(HUNDRED, 100);
        answers(NINETY_NINE, 99);
        answers(HUNDRED_AND_ONE, 101);
        answers("331;" + IS_ONE + ";", 1);
        ClueLogic logic = Due.of("433;<a0b0;");
        due.is("run()", logic.run(), 41472);
        due.is("run() again", logic.run(), 41472);
        logic.cross();
        due.is("run() behind cross()", logic.run(), 41472);
        due.is("run() of a new object", new ClueLogic().run(), 1);
    }

    private static void answersFromNoughtOn() {
        due.by("The value of a kind that a thing has in answer k (in order, from 0 on;");
        ClueLogic logic = ran("310;<a0a1;<a0a2;");
        int[][] want = {{0, 1, 2}, {0, 2, 1}};
        for (int k = -1; k <= 3; k++) {
            for (int thing = 0; thing < 3; thing++) {
                boolean there = k == 0 || k == 1;
                due.is("answer(" + k + ", " + thing + ", 0)", logic.answer(k, thing, 0), there ? want[k][thing] : -1);
            }
        }
        logic = ran("433;" + "!a0a0;");
        due.is("answer(0, 0, 0) of none", logic.answer(0, 0, 0), -1);
    }

    private static void firstHundred() {
        due.by("the first 100 are kept");
        ClueLogic logic = ran(NINETY_NINE);
        kept(logic, 98, true);
        kept(logic, 99, false);
        kept(logic, 100, false);
        for (String text : new String[] {HUNDRED, HUNDRED_AND_ONE, "433;", "403;", "431;", "420;", "413;"}) {
            logic = Due.of(text);
            int count = logic.run();
            kept(logic, 0, true);
            kept(logic, 99, count >= 100);
            kept(logic, 100, false);
            kept(logic, 101, false);
        }
        due.is("answer 99 of all", state(ran("420;"), 99), "03120231");
        due.is("answer 95 of 96", state(ran("412;"), 95), "321011");
    }

    private static void kept(ClueLogic logic, int k, boolean is) {
        if (logic.told(1) > 0) {
            due.is("answer(" + k + ", 0, 0) is kept", logic.answer(k, 0, 0) >= 0, is);
            due.is("answer(" + k + ", last, last) is kept", logic.answer(k, logic.told(0) - 1, logic.told(1) - 1) >= 0, is);
        }
        if (logic.told(2) > 0) {
            due.is("truth(" + k + ", 0) is kept", logic.truth(k, 0) >= 0, is);
        }
    }

    private static void noSuchAnswer() {
        due.by("-1 when there is none such.");
        for (String head : new String[] {"433;", "433;!a0a0;", "110;", "100;", "111;"}) {
            ClueLogic logic = ran(head);
            for (int never : Due.NEVER) {
                due.is("answer(0, " + never + ", 0) of " + head, logic.answer(0, never, 0), -1);
                due.is("answer(0, 0, " + never + ") of " + head, logic.answer(0, 0, never), -1);
                if (never < 0 || never >= 100) {
                    due.is("answer(" + never + ", 0, 0) of " + head, logic.answer(never, 0, 0), -1);
                    due.is("answer(" + never + ", 3, 2) of " + head, logic.answer(never, 3, 2), -1);
                }
            }
        }
        // Where rows of several kinds or things lie one behind the other, one too many must not reach the next.
        ClueLogic logic = ran("220;");
        due.is("answer(0, 2, 0)", logic.answer(0, 2, 0), -1);
        due.is("answer(0, 0, 2)", logic.answer(0, 0, 2), -1);
        due.is("answer(1, -1, 1)", logic.answer(1, -1, 1), -1);
        due.is("answer(1, 1, -1)", logic.answer(1, 1, -1), -1);
    }

    private static void answersBeforeRun() {
        due.by("All answers are found");
        ClueLogic logic = Due.of("211;t0;");
        due.is("answer(0, 0, 0) before run()", logic.answer(0, 0, 0), -1);
        due.is("truth(0, 0) before run()", logic.truth(0, 0), -1);
        logic.often(0, 0, 0);
        logic.spare(0);
        logic.cross();
        due.is("answer(0, 0, 0) behind others than run()", logic.answer(0, 0, 0), -1);
        due.is("truth(0, 0) behind others than run()", logic.truth(0, 0), -1);
        due.is("run()", logic.run(), 2);
        due.is("answer(0, 0, 0)", logic.answer(0, 0, 0), 0);
        due.is("answer(1, 0, 0)", logic.answer(1, 0, 0), 1);
        due.is("truth(0, 0)", logic.truth(0, 0), 1);
    }

    private static void truth() {
        due.by("Whether a person is truthful in answer k: 1, 0");
        ClueLogic logic = ran("103;");
        for (int k = 0; k < 8; k++) {
            for (int person = 0; person < 3; person++) {
                due.is("truth(" + k + ", " + person + ")", logic.truth(k, person), k >> (2 - person) & 1);
            }
        }
        logic = ran("413;");
        for (int k = 92; k < 100; k++) {
            for (int person = 0; person < 3; person++) {
                due.is("truth(" + k + ", " + person + ")", logic.truth(k, person), k >> (2 - person) & 1);
            }
        }
        due.is("truth(100, 0)", logic.truth(100, 0), -1);
    }

    private static void noSuchTruth() {
        due.by("Whether a person is truthful in answer k: 1, 0; -1 when there is none such.");
        for (String head : new String[] {"433;", "103;", "103;&t0~t0;", "430;", "101;"}) {
            ClueLogic logic = ran(head);
            int answers = logic.run();
            for (int never : Due.NEVER) {
                due.is("truth(0, " + never + ") of " + head, logic.truth(0, never), -1);
                if (never < 0 || never >= Math.min(100, answers)) {
                    due.is("truth(" + never + ", 0) of " + head, logic.truth(never, 0), -1);
                }
            }
            due.is("truth(0, 3) of " + head, logic.truth(0, 3), -1);
        }
        due.is("truth(0, 1) of one person", ran("101;").truth(0, 1), -1);
        due.is("truth(0, 2) of two persons", ran("102;").truth(0, 2), -1);
        due.is("truth(1, 0) of no persons", ran("100;").truth(1, 0), -1);
    }

    private static void often() {
        due.by("In how many answers a thing has a value of a kind");
        for (String text : new String[] {"433;", HUNDRED, "410;<a0a1;", "430;+a0b0;=b0c1;", "211;t0;~t0;", "130;"}) {
            ClueLogic logic = Due.of(text);
            int answers = logic.run();
            for (int kind = 0; kind < logic.told(1); kind++) {
                for (int i = 0; i < logic.told(0); i++) {
                    int ofThing = 0;
                    int ofValue = 0;
                    for (int j = 0; j < logic.told(0); j++) {
                        ofThing += logic.often(i, kind, j);
                        ofValue += logic.often(j, kind, i);
                    }
                    due.is("all values of thing " + i + " in " + text, ofThing, answers);
                    due.is("all things with value " + i + " in " + text, ofValue, answers);
                }
            }
        }
        due.is("often(3, 2, 3) of all", Due.of("433;").often(3, 2, 3), 110592 / 4);
        due.is("often(0, 0, 0) of one", Due.of("110;").often(0, 0, 0), 1);
        due.is("often(0, 0, 0) of none", Due.of("211;t0;~t0;").often(0, 0, 0), 0);
        int[] nought = {6, 4, 2, 0};
        for (int thing = 0; thing < 4; thing++) {
            due.is("often(" + thing + ", 0, 0)", Due.of("410;<a0a1;").often(thing, 0, 0), nought[thing]);
        }
    }

    private static void oftenBeforeRun() {
        due.by("(Whether or not run() came.)");
        ClueLogic logic = Due.of("410;<a0a1;");
        due.is("often(0, 0, 0) before run()", logic.often(0, 0, 0), 6);
        due.is("often(3, 0, 0) before run()", logic.often(3, 0, 0), 0);
        due.is("run()", logic.run(), 12);
        due.is("often(0, 0, 0) behind run()", logic.often(0, 0, 0), 6);
        due.is("run()", logic.run(), 12);
        due.is("often(0, 0, 0) behind run() again", logic.often(0, 0, 0), 6);
        due.is("read()", Due.read(logic, "410;<a1a0;"), 1);
        due.is("often(0, 0, 0) behind read()", logic.often(0, 0, 0), 0);
        due.is("read() of a bad text", Due.read(logic, "410;<a1"), -8);
        due.is("often(0, 0, 1) behind a refused read()", logic.often(0, 0, 1), 6);
    }

    private static void noSuchOften() {
        due.by("-1 when there is no such thing, kind or value.");
        for (String head : new String[] {"433;", "433;!a0a0;", "110;", "100;"}) {
            ClueLogic logic = Due.of(head);
            for (int never : Due.NEVER) {
                due.is("often(" + never + ", 0, 0) of " + head, logic.often(never, 0, 0), -1);
                due.is("often(0, " + never + ", 0) of " + head, logic.often(0, never, 0), -1);
                due.is("often(0, 0, " + never + ") of " + head, logic.often(0, 0, never), -1);
            }
        }
        for (int n = 1; n <= 4; n++) {
            ClueLogic logic = Due.of(n + "20;");
            due.is("often(" + n + ", 0, 0)", logic.often(n, 0, 0), -1);
            due.is("often(0, 0, " + n + ")", logic.often(0, 0, n), -1);
            due.is("often(0, 2, 0)", logic.often(0, 2, 0), -1);
            due.holds("often(N - 1, 1, N - 1)", logic.often(n - 1, 1, n - 1) > 0);
        }
    }

    private static void spare() {
        due.by("Whether a clue is SPARE: without it there are as many answers");
        for (int clues = 1; clues <= 20; clues++) {
            for (int place = 0; place < clues; place += clues == 20 ? 1 : 4) {
                ClueLogic logic = Due.of("101;" + ALWAYS.repeat(place) + "t0;" + ALWAYS.repeat(clues - 1 - place));
                for (int clue = 0; clue < clues; clue++) {
                    due.is("spare(" + clue + ") with one at " + place, logic.spare(clue), clue != place);
                }
            }
        }
        ClueLogic logic = Due.of("102;t0;t0;t1;");
        due.is("spare(0) of a clue that is there twice", logic.spare(0), true);
        due.is("spare(1) of a clue that is there twice", logic.spare(1), true);
        due.is("spare(2)", logic.spare(2), false);
        due.is("run()", logic.run(), 1);
        due.is("spare(0) behind run()", logic.spare(0), true);
        due.is("spare(2) behind run()", logic.spare(2), false);
        // Of a hundred answers clue 2 takes one away and clue 3 none.
        logic = Due.of("331;<b0a1;|<c1b2=c0b0;~" + IS_ONE + ";~" + IS_OTHER + ";");
        due.is("spare(2) of one answer's difference", logic.spare(2), false);
        due.is("spare(3) of no difference", logic.spare(3), true);
    }

    private static void spareOfNoAnswers() {
        due.by("without it there are as many answers");
        ClueLogic logic = Due.of("101;t0;~t0;");
        due.is("spare(0) of a contradiction", logic.spare(0), false);
        due.is("spare(1) of a contradiction", logic.spare(1), false);
        logic = Due.of("101;t0;~t0;" + NEVER_HOLDS);
        due.is("spare(0) of two contradictions", logic.spare(0), true);
        due.is("spare(1) of two contradictions", logic.spare(1), true);
        due.is("spare(2) of two contradictions", logic.spare(2), true);
        logic = Due.of("101;" + NEVER_HOLDS);
        due.is("spare(0) of the only clue, which never holds", logic.spare(0), false);
        logic = Due.of("101;" + NEVER_HOLDS + NEVER_HOLDS);
        due.is("spare(0) of one of two that never hold", logic.spare(0), true);
        due.is("spare(1) of one of two that never hold", logic.spare(1), true);
    }

    private static void noSuchClue() {
        due.by("false when there is no such clue.");
        for (int clues = 0; clues <= 20; clues++) {
            ClueLogic logic = Due.of("101;" + ALWAYS.repeat(clues));
            due.is("spare of the last of " + clues, logic.spare(clues - 1), clues > 0);
            for (int clue : new int[] {clues, clues + 1, 20, 21, 32 + clues, -1, -2, Integer.MAX_VALUE, Integer.MIN_VALUE}) {
                due.is("spare(" + clue + ") of " + clues, logic.spare(clue), false);
            }
        }
        ClueLogic logic = Due.of("101;" + ALWAYS.repeat(20));
        due.is("read() of fewer clues", Due.read(logic, "101;" + ALWAYS), 1);
        due.is("spare(0)", logic.spare(0), true);
        due.is("spare(1) of what was read before", logic.spare(1), false);
        due.is("read() of a bad text with more clues", Due.read(logic, "101;" + ALWAYS + ALWAYS + "x"), -19);
        due.is("spare(1) of a refused text", logic.spare(1), false);
    }

    /** Each kind of call as the last one that is promised, behind 511 others. */
    private static void lastCall() {
        due.by("An object is used for at most 512 calls after it has been made");
        String text = "322;<a0b1;p0t1;=a1b1;t1;";
        due.is("unit(48)", before(text, CALLS - 1).unit('0'), true);
        due.is("read()", before(text, CALLS - 1).read(), -1);
        due.is("told(0)", before(text, CALLS - 1).told(0), 3);
        due.is("run()", before(text, CALLS - 1).run(), 6);
        due.is("answer(0, 2, 1)", before(text, CALLS - 1).answer(0, 2, 1), 2);
        due.is("truth(0, 0)", before(text, CALLS - 1).truth(0, 0), 1);
        due.is("often(2, 1, 1)", before(text, CALLS - 1).often(2, 1, 1), 4);
        due.is("spare(0)", before(text, CALLS - 1).spare(0), false);
        due.is("cross()", before(text, CALLS - 1).cross(), 4);
        due.is("step(3, 0)", before(text, CALLS - 1).step(3, 0), 1);
        due.is("may(0, 0)", before(text, CALLS - 1).may(0, 0), 5);
        due.is("mayBe(0)", before(text, CALLS - 1).mayBe(0), 2);
        ClueLogic logic = before(text, CALLS - 5);
        due.is("read() as the last call", Due.read(logic, "433;"), 0);
        logic = before(text, CALLS - 301);
        due.is("read() of 300 bytes as the last call", Due.read(logic, "x".repeat(300)), -1);
    }

    /** An object behind so many calls: a text was read, the answers found, and crossing out done. */
    private static ClueLogic before(String text, int calls) {
        ClueLogic logic = Due.of(text);
        logic.run();
        logic.cross();
        for (int i = text.length() + 3; i < calls; i++) {
            logic.often(i % 5, i % 3, i % 4);
        }
        return logic;
    }

    private static ClueLogic ran(String text) {
        ClueLogic logic = Due.of(text);
        logic.run();
        return logic;
    }

    private static void answers(String text, int want) {
        due.is("run() of " + text, Due.of(text).run(), want);
    }
}
