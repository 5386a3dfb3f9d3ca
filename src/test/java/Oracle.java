import java.util.ArrayDeque;
import java.util.ArrayList;
import java.util.Deque;
import java.util.List;

/**
 * The document once more, in the plainest way: a state is a row of numbers (kind by kind, thing by
 * thing, then the persons), all of them are tried for each question, and a clue is read anew from
 * its text for each state.
 */
final class Oracle {
    int things = 1;
    int kinds = 0;
    int persons = 0;
    List<String> clues = new ArrayList<>();
    private List<int[]> states = allStates();

    /** What read() answers; the puzzle is taken over if it is a good one. */
    int read(String text) {
        int bad = firstBad(text);
        if (bad >= 0) {
            return -1 - bad;
        }
        things = text.charAt(0) - '0';
        kinds = text.charAt(1) - '0';
        persons = text.charAt(2) - '0';
        clues = new ArrayList<>();
        for (String clue : text.substring(4).split(";")) {
            if (!clue.isEmpty()) {
                clues.add(clue);
            }
        }
        states = allStates();
        return clues.size();
    }

    /** The place of the first byte that may not be there, by a stack of what is still to come; -1 if all is well. */
    private static int firstBad(String text) {
        Deque<Character> due = new ArrayDeque<>();
        for (char c : new char[] {';', 'M', 'K', 'N'}) {
            due.push(c);
        }
        int signs = 0;
        int ended = 0;
        for (int place = 0; place < text.length(); place++) {
            char c = text.charAt(place);
            if (due.isEmpty()) {
                due.push('E');
                due.push('C');
                signs = 0;
            }
            boolean well;
            switch (due.pop()) {
                case 'N':
                    well = "1234".indexOf(c) >= 0;
                    break;
                case 'K':
                case 'M':
                    well = "0123".indexOf(c) >= 0;
                    break;
                case 'V':
                    well = c >= '0' && c < text.charAt(0);
                    break;
                case 'L':
                    well = "abc".substring(0, text.charAt(1) - '0').indexOf(c) >= 0;
                    break;
                case 'P':
                    well = c >= '0' && c < text.charAt(2);
                    break;
                case 'C':
                    signs++;
                    well = signs <= 30 && pushParts(due, c);
                    break;
                case 'E':
                    ended++;
                    well = c == ';' && ended <= 20;
                    break;
                default:
                    well = c == ';';
                    break;
            }
            if (!well) {
                return place;
            }
        }
        return due.isEmpty() ? -1 : text.length();
    }

    private static boolean pushParts(Deque<Character> due, char sign) {
        String parts;
        if ("=!<+".indexOf(sign) >= 0) {
            parts = "VLVL";
        } else if (sign == 't') {
            parts = "P";
        } else if (sign == 'p') {
            parts = "CP";
        } else if (sign == '~') {
            parts = "C";
        } else if (sign == '&' || sign == '|') {
            parts = "CC";
        } else {
            return false;
        }
        for (char part : parts.toCharArray()) {
            due.push(part);
        }
        return true;
    }

    private List<int[]> allStates() {
        List<int[]> all = new ArrayList<>();
        grow(all, new int[things * kinds + persons], 0);
        return all;
    }

    private void grow(List<int[]> all, int[] state, int place) {
        if (place == state.length) {
            all.add(state.clone());
            return;
        }
        boolean ofThing = place < things * kinds;
        for (int number = 0; number < (ofThing ? things : 2); number++) {
            boolean taken = false;
            for (int before = place - (ofThing ? place % things : 0); before < place; before++) {
                taken |= state[before] == number;
            }
            if (!taken) {
                state[place] = number;
                grow(all, state, place + 1);
            }
        }
    }

    boolean holds(String clue, int[] state) {
        return new Weighing(clue, state).next();
    }

    /** Goes through the text of one clue. */
    private final class Weighing {
        private final String clue;
        private final int[] state;
        private int place;

        Weighing(String clue, int[] state) {
            this.clue = clue;
            this.state = state;
        }

        boolean next() {
            char sign = clue.charAt(place++);
            switch (sign) {
                case 't':
                    return truthful();
                case 'p':
                    boolean truthful = truthful();
                    return truthful ? next() : !next();
                case '~':
                    return !next();
                case '&':
                    boolean one = next();
                    boolean two = next();
                    return one && two;
                case '|':
                    boolean first = next();
                    boolean second = next();
                    return first || second;
                default:
                    return relates(sign, thing(), thing());
            }
        }

        private boolean relates(char sign, int v, int w) {
            switch (sign) {
                case '=':
                    return v == w;
                case '!':
                    return v != w;
                case '<':
                    return v < w;
                default:
                    return Math.abs(v - w) == 1;
            }
        }

        private boolean truthful() {
            return state[things * kinds + clue.charAt(place++) - '0'] == 1;
        }

        private int thing() {
            int kind = clue.charAt(place++) - 'a';
            int value = clue.charAt(place++) - '0';
            for (int thing = 0; thing < things; thing++) {
                if (state[kind * things + thing] == value) {
                    return thing;
                }
            }
            throw new IllegalStateException("no thing has the value");
        }
    }

    /** The answers without one clue, or all of them when without is -1. */
    List<int[]> answers(int without) {
        List<int[]> found = new ArrayList<>();
        for (int[] state : states) {
            boolean all = true;
            for (int clue = 0; clue < clues.size() && all; clue++) {
                all = clue == without || holds(clues.get(clue), state);
            }
            if (all) {
                found.add(state);
            }
        }
        return found;
    }

    /** The steps of crossing out as pairs of clue and number; may[place][number] is what is left. */
    List<int[]> cross(boolean[][] may) {
        for (int place = 0; place < may.length; place++) {
            for (int number = 0; number < may[place].length; number++) {
                may[place][number] = number < (place < things * kinds ? things : 2);
            }
        }
        List<int[]> steps = new ArrayList<>();
        int clue = 0;
        while (clue < clues.size()) {
            int crossed = crossBy(clues.get(clue), may);
            if (crossed > 0) {
                steps.add(new int[] {clue, crossed});
                clue = 0;
            } else {
                clue++;
            }
        }
        return steps;
    }

    private int crossBy(String clue, boolean[][] may) {
        boolean[][] so = new boolean[may.length][4];
        for (int[] state : states) {
            boolean open = true;
            for (int place = 0; place < state.length; place++) {
                open &= may[place][state[place]];
            }
            if (open && holds(clue, state)) {
                for (int place = 0; place < state.length; place++) {
                    so[place][state[place]] = true;
                }
            }
        }
        int crossed = 0;
        for (int place = 0; place < may.length; place++) {
            for (int number = 0; number < 4; number++) {
                if (may[place][number] && !so[place][number]) {
                    may[place][number] = false;
                    crossed++;
                }
            }
        }
        return crossed;
    }

    boolean[][] rows() {
        return new boolean[things * kinds + persons][4];
    }
}
