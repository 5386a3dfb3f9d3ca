import java.util.List;

/**
 * Made-up texts, good and bad, read one behind the other by the program and by the Oracle. An object is
 * asked more than 512 times here: the program has no such bound, though the document promises no more.
 */
public final class OracleTest {
    private static final Due due = new Due("OracleTest");

    public static void main(String[] args) {
        Texts texts = new Texts(20261115L);
        int[] refused = new int[1];
        for (int i = 0; i < 400; i++) {
            ClueLogic logic = new ClueLogic();
            Oracle oracle = new Oracle();
            for (int round = 0; round < 3; round++) {
                read(logic, oracle, texts.good(3, 3, 6), refused);
                compareAll(logic, oracle, texts.below(4));
                read(logic, oracle, texts.spoilt(texts.good(3, 2, 4)), refused);
                compareAll(logic, oracle, texts.below(4));
            }
        }
        for (int i = 0; i < 12; i++) {
            ClueLogic logic = new ClueLogic();
            Oracle oracle = new Oracle();
            read(logic, oracle, texts.good(4, 3, 8), refused);
            compareAll(logic, oracle, 0);
        }
        for (int i = 0; i < 5; i++) {
            ClueLogic logic = new ClueLogic();
            Oracle oracle = new Oracle();
            read(logic, oracle, texts.large(), refused);
            compareAll(logic, oracle, 0);
        }
        for (int i = 0; i < 10000; i++) {
            read(new ClueLogic(), new Oracle(), texts.large(), refused);
            read(new ClueLogic(), new Oracle(), texts.spoilt(texts.good(4, 2, 8)), refused);
        }
        due.holds("many texts were refused", refused[0] > 5000);
        due.holds("many texts were read", refused[0] < 15000);
        due.end();
    }

    private static void read(ClueLogic logic, Oracle oracle, String text, int[] refused) {
        int want = oracle.read(text);
        due.is("read() of " + text, Due.read(logic, text), want);
        if (want < 0) {
            refused[0]++;
        }
    }

    /** Asks for all that can be asked for, in one of several orders. */
    private static void compareAll(ClueLogic logic, Oracle oracle, int order) {
        due.is("told(0)", logic.told(0), oracle.things);
        due.is("told(1)", logic.told(1), oracle.kinds);
        due.is("told(2)", logic.told(2), oracle.persons);
        if ((order & 1) != 0) {
            compareCrossing(logic, oracle);
        }
        if ((order & 2) != 0) {
            compareSpare(logic, oracle);
            compareOften(logic, oracle);
            compareAnswers(logic, oracle);
        } else {
            compareAnswers(logic, oracle);
            compareOften(logic, oracle);
            compareSpare(logic, oracle);
        }
        if ((order & 1) == 0) {
            compareCrossing(logic, oracle);
        }
    }

    private static String of(Oracle oracle) {
        return " of " + oracle.things + oracle.kinds + oracle.persons + oracle.clues;
    }

    private static void compareAnswers(ClueLogic logic, Oracle oracle) {
        List<int[]> answers = oracle.answers(-1);
        due.is("run()" + of(oracle), logic.run(), answers.size());
        for (int k = -1; k < 105; k++) {
            boolean kept = k >= 0 && k < 100 && k < answers.size();
            for (int kind = 0; kind < 4; kind++) {
                for (int thing = 0; thing < 5; thing++) {
                    boolean there = kept && thing < oracle.things && kind < oracle.kinds;
                    int want = there ? answers.get(k)[kind * oracle.things + thing] : -1;
                    due.is("answer(" + k + ", " + thing + ", " + kind + ")" + of(oracle), logic.answer(k, thing, kind), want);
                }
            }
            for (int person = 0; person < 4; person++) {
                boolean there = kept && person < oracle.persons;
                int want = there ? answers.get(k)[oracle.kinds * oracle.things + person] : -1;
                due.is("truth(" + k + ", " + person + ")" + of(oracle), logic.truth(k, person), want);
            }
        }
    }

    private static void compareOften(ClueLogic logic, Oracle oracle) {
        List<int[]> answers = oracle.answers(-1);
        for (int thing = 0; thing < oracle.things; thing++) {
            for (int kind = 0; kind < oracle.kinds; kind++) {
                for (int v = 0; v < oracle.things; v++) {
                    int want = 0;
                    for (int[] answer : answers) {
                        want += answer[kind * oracle.things + thing] == v ? 1 : 0;
                    }
                    due.is("often(" + thing + ", " + kind + ", " + v + ")" + of(oracle), logic.often(thing, kind, v), want);
                }
            }
        }
    }

    private static void compareSpare(ClueLogic logic, Oracle oracle) {
        int all = oracle.answers(-1).size();
        for (int clue = 0; clue < oracle.clues.size(); clue++) {
            boolean want = oracle.answers(clue).size() == all;
            due.is("spare(" + clue + ")" + of(oracle), logic.spare(clue), want);
        }
    }

    private static void compareCrossing(ClueLogic logic, Oracle oracle) {
        boolean[][] may = oracle.rows();
        List<int[]> steps = oracle.cross(may);
        due.is("cross()" + of(oracle), logic.cross(), steps.size());
        for (int k = 0; k < steps.size(); k++) {
            due.is("step(" + k + ", 0)" + of(oracle), logic.step(k, 0), steps.get(k)[0]);
            due.is("step(" + k + ", 1)" + of(oracle), logic.step(k, 1), steps.get(k)[1]);
        }
        due.is("step behind the last" + of(oracle), logic.step(steps.size(), 0), -1);
        for (int place = 0; place < may.length; place++) {
            int bits = 0;
            for (int number = 0; number < 4; number++) {
                bits |= may[place][number] ? 1 << number : 0;
            }
            int ofThings = oracle.things * oracle.kinds;
            if (place < ofThings) {
                int thing = place % oracle.things;
                int kind = place / oracle.things;
                due.is("may(" + thing + ", " + kind + ")" + of(oracle), logic.may(thing, kind), bits);
            } else {
                due.is("mayBe(" + (place - ofThings) + ")" + of(oracle), logic.mayBe(place - ofThings), bits);
            }
        }
    }
}
