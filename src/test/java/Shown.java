/** All that an object shows, in one text: two objects that show the same cannot be told apart. */
final class Shown {
    private final ClueLogic logic;
    private final StringBuilder text = new StringBuilder();

    private Shown(ClueLogic logic) {
        this.logic = logic;
    }

    /** Some 150 calls; what only run() or cross() brings is asked for before them and behind them. */
    static String by(ClueLogic logic) {
        Shown shown = new Shown(logic);
        shown.told();
        shown.found();
        shown.oftenAndSpare();
        shown.found();
        shown.add("run", logic.run());
        shown.add("cross", logic.cross());
        shown.found();
        return shown.text.toString();
    }

    private void told() {
        for (int what = 0; what < 3; what++) {
            add("told", logic.told(what));
        }
    }

    private void found() {
        for (int k = 0; k < 2; k++) {
            for (int i = 0; i < 3; i++) {
                add("answer", logic.answer(k, i, i));
                add("truth", logic.truth(k, i));
            }
        }
        for (int k = 0; k < 4; k++) {
            add("step", logic.step(k, 0));
            add("crossed", logic.step(k, 1));
        }
        for (int i = 0; i < 3; i++) {
            for (int thing = 0; thing < 4; thing++) {
                add("may", logic.may(thing, i));
            }
            add("mayBe", logic.mayBe(i));
        }
    }

    private void oftenAndSpare() {
        for (int i = 0; i < 4; i++) {
            for (int kind = 0; kind < 3; kind++) {
                add("often", logic.often(i, kind, i));
            }
        }
        for (int clue = 0; clue <= 20; clue++) {
            add("spare", logic.spare(clue) ? 1 : 0);
        }
    }

    private void add(String call, int answer) {
        text.append(' ').append(call).append(' ').append(answer);
    }
}
