import java.util.Random;

/** Calls in any order with any arguments: none throws, and the same calls always answer the same. */
public final class AnyCallsTest {
    private static final int RUNS = 600;
    /** More than the 512 of which the document tells what they answer: the others may not throw either. */
    private static final int CALLS = 700;
    private static final int[] EDGES = {-2, -1, 0, 1, 2, 3, 4, 5, 20, 99, 100, 255, 256, Integer.MAX_VALUE, Integer.MIN_VALUE};

    private static final Due due = new Due("AnyCallsTest");

    public static void main(String[] args) {
        for (int run = 0; run < RUNS; run++) {
            due.is("the answers of run " + run, answersOf(run), answersOf(run));
        }
        due.end();
    }

    /** All answers of a run in one number. */
    private static long answersOf(int run) {
        Random random = new Random(run);
        Texts texts = new Texts(run);
        ClueLogic logic = new ClueLogic();
        long sum = 0;
        int calls = 0;
        while (calls < CALLS) {
            if (random.nextInt(12) == 0) {
                String text = texts.good(4, run % 4, 4);
                Due.give(logic, random.nextInt(3) == 0 ? texts.spoilt(text) : text);
                sum = 31 * sum + logic.read();
                calls += text.length() + 1;
            } else {
                sum = 31 * sum + call(logic, random);
                calls++;
            }
        }
        return sum;
    }

    private static int call(ClueLogic logic, Random random) {
        int x = number(random);
        int y = number(random);
        int z = number(random);
        switch (random.nextInt(13)) {
            case 0:
                return logic.unit(x) ? 1 : 0;
            case 1:
                return random.nextInt(8) == 0 ? logic.read() : 0;
            case 2:
                return logic.told(x);
            case 3:
                return logic.run();
            case 4:
                return logic.answer(x, y, z);
            case 5:
                return logic.truth(x, y);
            case 6:
                return logic.often(x, y, z);
            case 7:
                return logic.spare(x) ? 1 : 0;
            case 8:
                return logic.cross();
            case 9:
                return logic.step(x, y);
            case 10:
                return logic.may(x, y);
            case 11:
                return logic.mayBe(x);
            default:
                return new ClueLogic().run();
        }
    }

    private static int number(Random random) {
        int choice = random.nextInt(10);
        if (choice == 0) {
            return random.nextInt();
        }
        return choice < 4 ? EDGES[random.nextInt(EDGES.length)] : random.nextInt(4);
    }
}
