import java.util.Random;

/** Makes up texts, the same ones each time. */
final class Texts {
    private final Random random;

    Texts(long seed) {
        random = new Random(seed);
    }

    int below(int bound) {
        return random.nextInt(bound);
    }

    /** A text that can be read, of at most so many things, kinds and clues. */
    String good(int mostThings, int mostKinds, int mostClues) {
        int things = 1 + below(mostThings);
        int kinds = below(mostKinds + 1);
        int persons = below(4);
        StringBuilder text = new StringBuilder();
        text.append(things).append(kinds).append(persons).append(';');
        if (kinds == 0 && persons == 0) {
            return text.toString();
        }
        int clues = below(mostClues + 1);
        for (int i = 0; i < clues; i++) {
            String clue = clue(things, kinds, persons, below(4));
            if (text.length() + clue.length() < 300) {
                text.append(clue).append(';');
            }
        }
        return text.toString();
    }

    private String clue(int things, int kinds, int persons, int depth) {
        int choice = depth == 0 ? below(2) : below(6);
        if (choice == 2) {
            return "~" + clue(things, kinds, persons, depth - 1);
        }
        if (choice == 3) {
            return "&" + clue(things, kinds, persons, depth - 1) + clue(things, kinds, persons, depth - 1);
        }
        if (choice == 4) {
            return "|" + clue(things, kinds, persons, depth - 1) + clue(things, kinds, persons, depth - 1);
        }
        if (choice == 5 && persons > 0) {
            return "p" + below(persons) + clue(things, kinds, persons, depth - 1);
        }
        if (kinds == 0 || choice == 1 && persons > 0) {
            return "t" + below(persons);
        }
        return "=!<+".charAt(below(4)) + value(things, kinds) + value(things, kinds);
    }

    private String value(int things, int kinds) {
        return "abc".charAt(below(kinds)) + "" + below(things);
    }

    /** A text with a few bytes left out, put in or changed. */
    String spoilt(String text) {
        String bytes = "=!<+tp~&|;abcd01234 \u0000\u00ff";
        StringBuilder spoilt = new StringBuilder(text);
        for (int i = below(3); i >= 0; i--) {
            int place = below(spoilt.length() + 1);
            char c = bytes.charAt(below(bytes.length()));
            int how = below(4);
            if (how == 0) {
                spoilt.insert(place, c);
            } else if (place < spoilt.length() && how == 1) {
                spoilt.deleteCharAt(place);
            } else if (place < spoilt.length() && how == 2) {
                spoilt.setCharAt(place, c);
            } else if (how == 3 && below(3) == 0) {
                spoilt.setLength(place);
            }
        }
        return spoilt.length() > 300 ? spoilt.substring(0, 300) : spoilt.toString();
    }

    /** A text near the limits: of bytes, of clues, of signs in a clue. */
    String large() {
        int things = 1 + below(4);
        int kinds = 1 + below(3);
        int persons = 1 + below(3);
        StringBuilder text = new StringBuilder();
        text.append(things).append(kinds).append(persons).append(';');
        int clues = below(2) == 0 ? 18 + below(4) : 6 + below(4);
        int mostTurns = clues > 10 ? 12 : 31;
        for (int i = 0; i < clues; i++) {
            String turn = below(3) == 0 ? "p" + below(persons) : "~";
            String clue = turn.repeat(below(mostTurns)) + clue(things, kinds, persons, below(2));
            if (text.length() + clue.length() < 300) {
                text.append(clue).append(';');
            }
        }
        if (below(6) == 0) {
            text.setLength(text.length() - 1 - below(4));
        }
        return text.toString();
    }
}
