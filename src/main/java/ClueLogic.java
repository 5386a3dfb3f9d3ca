import java.util.Arrays;

/**
 * Clue puzzles in a small language: things in a row with values of several kinds, persons who tell
 * the truth or lie, sayings within sayings; all answers, spare clues, and crossing out clue by clue.
 *
 * <p>Three words are used throughout:
 * <ul>
 * <li>an ORDER is one way in which the things can have the values of one kind; its TICKS are the
 *     bits {@code 4 * thing + value} of what each thing has in it;
 * <li>a LAYOUT is one order for each kind;
 * <li>a PARTY says who is truthful: a number with the bit 4 for person 0, 2 for person 1 and 1 for
 *     person 2, so that the document's order of states is that of these numbers. A set of parties
 *     is a number with a bit for each, so that a clue is weighed for all parties at once.
 * </ul>
 */
public final class ClueLogic {
    private static final int MOST_BYTES = 300;
    private static final int MOST_CLUES = 20;
    private static final int MOST_SIGNS = 30;
    private static final int MOST_KEPT = 100;
    private static final int MOST_THINGS = 4;
    private static final int MOST_KINDS = 3;
    private static final int MOST_PERSONS = 3;
    private static final int MOST_ORDERS = 24;
    private static final int PARTIES = 8;
    /** A step crosses out at least one of so many: each value of each thing, each person's two. */
    private static final int MOST_STEPS = MOST_KINDS * MOST_THINGS * MOST_THINGS + 2 * MOST_PERSONS;
    private static final int NONE = -1;

    private static final String SIGNS = "=!<+tp~&|";
    /** The ticks of value 0 of all things. */
    private static final int COLUMN = 0x1111;
    /** The ticks of all values of thing 0. */
    private static final int ROW = 0xF;
    /** The parties in which each person is truthful. */
    private static final int[] TRUTHFUL = {0xF0, 0xCC, 0xAA};
    /** The parties that 0, 1, 2 or 3 persons can be: a person that is not there is not truthful. */
    private static final int[] PARTIES_OF = {0x01, 0x11, 0x55, 0xFF};

    private final int[] text = new int[MOST_BYTES];
    private int length;
    private Puzzle puzzle;
    private Answers answers;
    private Crossing crossing;
    private boolean ran;

    public ClueLogic() {
        begin(new Puzzle(1, 0, 0));
    }

    public boolean unit(int u) {
        if (u < 0 || u > 255 || length >= MOST_BYTES) {
            return false;
        }
        text[length] = u;
        length++;
        return true;
    }

    public int read() {
        Reader reader = new Reader(text, length);
        Puzzle fresh = reader.puzzle();
        length = 0;
        if (fresh == null) {
            return -1 - reader.place();
        }
        begin(fresh);
        return fresh.clueCount();
    }

    public int told(int what) {
        switch (what) {
            case 0:
                return puzzle.things();
            case 1:
                return puzzle.kinds();
            case 2:
                return puzzle.persons();
            default:
                return NONE;
        }
    }

    public int run() {
        ran = true;
        answers.find();
        return answers.count();
    }

    public int answer(int k, int thing, int kind) {
        if (!isKept(k) || !puzzle.hasThing(thing) || !puzzle.hasKind(kind)) {
            return NONE;
        }
        return answers.value(k, thing, kind);
    }

    public int truth(int k, int person) {
        if (!isKept(k) || !puzzle.hasPerson(person)) {
            return NONE;
        }
        return answers.isTruthful(k, person) ? 1 : 0;
    }

    public int often(int thing, int kind, int v) {
        if (!puzzle.hasThing(thing) || !puzzle.hasKind(kind) || !puzzle.hasValue(v)) {
            return NONE;
        }
        answers.find();
        return answers.countWith(thing, kind, v);
    }

    public boolean spare(int clue) {
        if (!puzzle.hasClue(clue)) {
            return false;
        }
        answers.find();
        return !answers.isNeeded(clue);
    }

    public int cross() {
        crossing.finish();
        return crossing.steps();
    }

    public int step(int k, int what) {
        if (k < 0 || k >= crossing.steps()) {
            return NONE;
        }
        switch (what) {
            case 0:
                return crossing.clueOf(k);
            case 1:
                return crossing.crossedBy(k);
            default:
                return NONE;
        }
    }

    public int may(int thing, int kind) {
        if (!puzzle.hasThing(thing) || !puzzle.hasKind(kind)) {
            return NONE;
        }
        return crossing.valuesLeft(thing, kind);
    }

    public int mayBe(int person) {
        if (!puzzle.hasPerson(person)) {
            return NONE;
        }
        return crossing.waysLeft(person);
    }

    private void begin(Puzzle fresh) {
        puzzle = fresh;
        answers = new Answers(fresh);
        crossing = new Crossing(fresh);
        ran = false;
    }

    /** The answers may have been looked for without run(), but only run() shows them. */
    private boolean isKept(int k) {
        return ran && k >= 0 && k < answers.kept();
    }

    /** A clue or a part of one; the 30 signs of a clue keep the tree of its parts low. */
    private interface Clue {
        /**
         * The parties with which it holds, where thing[4 * kind + value] is the thing that has the
         * value. The bits of parties that cannot be mean nothing.
         */
        int holds(int[] thing);
    }

    private static final class OfValues implements Clue {
        private final int sign;
        private final int v;
        private final int w;

        OfValues(int sign, int v, int w) {
            this.sign = sign;
            this.v = v;
            this.w = w;
        }

        @Override
        public int holds(int[] thing) {
            return relates(thing[v], thing[w]) ? -1 : 0;
        }

        private boolean relates(int one, int other) {
            switch (sign) {
                case '=':
                    return one == other;
                case '!':
                    return one != other;
                case '<':
                    return one < other;
                default:
                    return one - other == 1 || other - one == 1;
            }
        }
    }

    private static final class OfPerson implements Clue {
        private final int parties;

        OfPerson(int person) {
            parties = TRUTHFUL[person];
        }

        @Override
        public int holds(int[] thing) {
            return parties;
        }
    }

    /** A clue that some parties turn into its contrary: all of them for ~, those of a liar for p. */
    private static final class Turned implements Clue {
        private final int turning;
        private final Clue part;

        Turned(int turning, Clue part) {
            this.turning = turning;
            this.part = part;
        }

        @Override
        public int holds(int[] thing) {
            return turning ^ part.holds(thing);
        }
    }

    private static final class Joined implements Clue {
        private final boolean both;
        private final Clue first;
        private final Clue second;

        Joined(boolean both, Clue first, Clue second) {
            this.both = both;
            this.first = first;
            this.second = second;
        }

        @Override
        public int holds(int[] thing) {
            int one = first.holds(thing);
            int other = second.holds(thing);
            return both ? one & other : one | other;
        }
    }

    /** Reads from left to right and answers null where it cannot go on: its place is the bad byte's then. */
    private static final class Reader {
        private final int[] text;
        private final int length;
        private int place;
        private int kinds;
        private int things;
        private int persons;
        private int signs;

        Reader(int[] text, int length) {
            this.text = text;
            this.length = length;
        }

        int place() {
            return place;
        }

        Puzzle puzzle() {
            if (!passHead()) {
                return null;
            }
            Puzzle puzzle = new Puzzle(things, kinds, persons);
            for (int count = 0; count <= MOST_CLUES && place < length; count++) {
                signs = 0;
                Clue clue = clue();
                if (clue == null || count == MOST_CLUES || !passSemicolon()) {
                    return null;
                }
                puzzle.add(clue);
            }
            return puzzle;
        }

        private boolean passHead() {
            things = take('0', 1, MOST_THINGS);
            if (things == NONE) {
                return false;
            }
            kinds = take('0', 0, MOST_KINDS);
            if (kinds == NONE) {
                return false;
            }
            persons = take('0', 0, MOST_PERSONS);
            return persons != NONE && passSemicolon();
        }

        private Clue clue() {
            if (place >= length || signs >= MOST_SIGNS || SIGNS.indexOf((char) text[place]) < 0) {
                return null;
            }
            int sign = text[place];
            place++;
            signs++;
            switch (sign) {
                case 't':
                    return ofPerson();
                case 'p':
                    return saying();
                case '~':
                    return turned(-1);
                case '&':
                case '|':
                    return joined(sign == '&');
                default:
                    return ofValues(sign);
            }
        }

        private Clue ofPerson() {
            int person = take('0', 0, persons - 1);
            return person == NONE ? null : new OfPerson(person);
        }

        private Clue saying() {
            int person = take('0', 0, persons - 1);
            return person == NONE ? null : turned(~TRUTHFUL[person]);
        }

        private Clue turned(int turning) {
            Clue part = clue();
            return part == null ? null : new Turned(turning, part);
        }

        private Clue joined(boolean both) {
            Clue first = clue();
            if (first == null) {
                return null;
            }
            Clue second = clue();
            return second == null ? null : new Joined(both, first, second);
        }

        private Clue ofValues(int sign) {
            int v = takeValue();
            if (v == NONE) {
                return null;
            }
            int w = takeValue();
            return w == NONE ? null : new OfValues(sign, v, w);
        }

        private int takeValue() {
            int kind = take('a', 0, kinds - 1);
            if (kind == NONE) {
                return NONE;
            }
            int value = take('0', 0, things - 1);
            return value == NONE ? NONE : MOST_THINGS * kind + value;
        }

        private boolean passSemicolon() {
            return take(';', 0, 0) != NONE;
        }

        /** A byte that is refused is not passed, so that the place stays at it. */
        private int take(int zero, int low, int high) {
            if (place >= length) {
                return NONE;
            }
            int number = text[place] - zero;
            if (number < low || number > high) {
                return NONE;
            }
            place++;
            return number;
        }
    }

    /** What a text says. */
    private static final class Puzzle {
        private final int things;
        private final int kinds;
        private final int persons;
        private final Orders orders;
        private final Clue[] clues = new Clue[MOST_CLUES];
        private int clueCount;

        Puzzle(int things, int kinds, int persons) {
            this.things = things;
            this.kinds = kinds;
            this.persons = persons;
            orders = new Orders(things);
        }

        void add(Clue clue) {
            if (clueCount < MOST_CLUES) {
                clues[clueCount] = clue;
                clueCount++;
            }
        }

        int things() {
            return things;
        }

        int kinds() {
            return kinds;
        }

        int persons() {
            return persons;
        }

        int clueCount() {
            return clueCount;
        }

        Orders orders() {
            return orders;
        }

        Clue clue(int clue) {
            return clues[clue];
        }

        boolean hasThing(int thing) {
            return thing >= 0 && thing < things;
        }

        boolean hasKind(int kind) {
            return kind >= 0 && kind < kinds;
        }

        boolean hasValue(int value) {
            return value >= 0 && value < things;
        }

        boolean hasPerson(int person) {
            return person >= 0 && person < persons;
        }

        boolean hasClue(int clue) {
            return clue >= 0 && clue < clueCount;
        }

        int parties() {
            return PARTIES_OF[persons];
        }
    }

    /** All orders of so many things, in the document's order of states. */
    private static final class Orders {
        private final int things;
        private final int[] ticks = new int[MOST_ORDERS];
        private final int[] value = new int[MOST_ORDERS * MOST_THINGS];
        private int count;
        private int allTicks;

        Orders(int things) {
            this.things = things;
            fill(0, 0);
        }

        int things() {
            return things;
        }

        int count() {
            return count;
        }

        int ticks(int order) {
            return ticks[order];
        }

        int allTicks() {
            return allTicks;
        }

        int value(int order, int thing) {
            return value[MOST_THINGS * order + thing];
        }

        private void fill(int thing, int ticked) {
            if (thing >= things) {
                add(ticked);
                return;
            }
            for (int v = 0; v < things; v++) {
                if ((ticked & (COLUMN << v)) == 0) {
                    fill(thing + 1, ticked | (1 << (MOST_THINGS * thing + v)));
                }
            }
        }

        private void add(int ticked) {
            if (count >= MOST_ORDERS) {
                return;
            }
            ticks[count] = ticked;
            allTicks |= ticked;
            for (int thing = 0; thing < things; thing++) {
                // One bit of four is set: those below it are as many as the value.
                int bit = (ticked >> (MOST_THINGS * thing)) & ROW;
                value[MOST_THINGS * count + thing] = Integer.bitCount(bit - 1);
            }
            count++;
        }
    }

    /** Goes through layouts, in the document's order of states. */
    private static final class Walk {
        private final Orders orders;
        private final int kinds;
        private final int[] open = new int[MOST_KINDS * MOST_ORDERS];
        private final int[] openCount = new int[MOST_KINDS];
        private final int[] at = new int[MOST_KINDS];
        private final int[] thing = new int[MOST_KINDS * MOST_THINGS];

        Walk(Puzzle puzzle) {
            orders = puzzle.orders();
            kinds = puzzle.kinds();
        }

        /** Takes the layouts in which the things have what they may have, and says how many. */
        int choose(int[] may) {
            int layouts = 1;
            for (int kind = 0; kind < kinds; kind++) {
                openCount[kind] = chooseOrders(kind, may[kind]);
                layouts *= openCount[kind];
            }
            return layouts;
        }

        private int chooseOrders(int kind, int mayOfKind) {
            int count = 0;
            for (int order = 0; order < orders.count(); order++) {
                if ((orders.ticks(order) & ~mayOfKind) == 0) {
                    open[MOST_ORDERS * kind + count] = order;
                    count++;
                }
            }
            return count;
        }

        void start() {
            for (int kind = 0; kind < kinds; kind++) {
                go(kind, 0);
            }
        }

        void next() {
            for (int kind = kinds - 1; kind >= 0; kind--) {
                if (at[kind] + 1 < openCount[kind]) {
                    go(kind, at[kind] + 1);
                    return;
                }
                go(kind, 0);
            }
        }

        int order(int kind) {
            return open[MOST_ORDERS * kind + at[kind]];
        }

        int[] thing() {
            return thing;
        }

        private void go(int kind, int place) {
            at[kind] = place;
            int order = order(kind);
            for (int i = 0; i < orders.things(); i++) {
                thing[MOST_THINGS * kind + orders.value(order, i)] = i;
            }
        }
    }

    /** All answers, found in one walk when they are first asked for. */
    private static final class Answers {
        private final Puzzle puzzle;
        private final Walk walk;
        private final int[] keptOrder = new int[MOST_KEPT * MOST_KINDS];
        private final int[] keptParty = new int[MOST_KEPT];
        private final int[] countWithOrder = new int[MOST_KINDS * MOST_ORDERS];
        private final int[] holding = new int[MOST_CLUES];
        private final boolean[] needed = new boolean[MOST_CLUES];
        private int count;
        private int kept;
        private boolean found;

        Answers(Puzzle puzzle) {
            this.puzzle = puzzle;
            walk = new Walk(puzzle);
        }

        int count() {
            return count;
        }

        int kept() {
            return kept;
        }

        int value(int k, int thing, int kind) {
            return puzzle.orders().value(keptOrder[MOST_KINDS * k + kind], thing);
        }

        boolean isTruthful(int k, int person) {
            return ((TRUTHFUL[person] >> keptParty[k]) & 1) != 0;
        }

        int countWith(int thing, int kind, int v) {
            int sum = 0;
            for (int order = 0; order < puzzle.orders().count(); order++) {
                if (puzzle.orders().value(order, thing) == v) {
                    sum += countWithOrder[MOST_ORDERS * kind + order];
                }
            }
            return sum;
        }

        boolean isNeeded(int clue) {
            return needed[clue];
        }

        void find() {
            if (found) {
                return;
            }
            found = true;
            int[] may = new int[MOST_KINDS];
            Arrays.fill(may, puzzle.orders().allTicks());
            int layouts = walk.choose(may);
            walk.start();
            for (int i = 0; i < layouts; i++) {
                weigh();
                walk.next();
            }
        }

        private void weigh() {
            int noneFails = puzzle.parties();
            int oneFails = 0;
            for (int clue = 0; clue < puzzle.clueCount() && (noneFails | oneFails) != 0; clue++) {
                int holds = puzzle.clue(clue).holds(walk.thing());
                holding[clue] = holds;
                oneFails = (oneFails & holds) | (noneFails & ~holds);
                noneFails &= holds;
            }
            if (noneFails != 0) {
                add(noneFails);
            }
            if (oneFails != 0) {
                need(oneFails);
            }
        }

        private void add(int parties) {
            int more = Integer.bitCount(parties);
            count += more;
            for (int kind = 0; kind < puzzle.kinds(); kind++) {
                countWithOrder[MOST_ORDERS * kind + walk.order(kind)] += more;
            }
            for (int party = 0; party < PARTIES && kept < MOST_KEPT; party++) {
                if (((parties >> party) & 1) != 0) {
                    keep(party);
                }
            }
        }

        private void keep(int party) {
            for (int kind = 0; kind < puzzle.kinds(); kind++) {
                keptOrder[MOST_KINDS * kept + kind] = walk.order(kind);
            }
            keptParty[kept] = party;
            kept++;
        }

        /** A state in which one clue alone fails would be an answer without that clue. */
        private void need(int parties) {
            for (int clue = 0; clue < puzzle.clueCount(); clue++) {
                if ((parties & ~holding[clue]) != 0) {
                    needed[clue] = true;
                }
            }
        }
    }

    /** Crossing out, done when it is first asked for; before that all may be. */
    private static final class Crossing {
        private final Puzzle puzzle;
        private final Walk walk;
        /** The ticks of each kind that are not crossed out, and those seen by the clue at hand. */
        private final int[] may = new int[MOST_KINDS];
        private final int[] seen = new int[MOST_KINDS];
        /** Two bits a person: 1 not truthful, 2 truthful. */
        private int mayBe;
        private int seenToBe;
        private final int[] stepClue = new int[MOST_STEPS];
        private final int[] stepCrossed = new int[MOST_STEPS];
        private int steps;
        private boolean finished;

        Crossing(Puzzle puzzle) {
            this.puzzle = puzzle;
            walk = new Walk(puzzle);
            for (int kind = 0; kind < puzzle.kinds(); kind++) {
                may[kind] = puzzle.orders().allTicks();
            }
            mayBe = waysIn(puzzle.parties());
        }

        int steps() {
            return steps;
        }

        int clueOf(int step) {
            return stepClue[step];
        }

        int crossedBy(int step) {
            return stepCrossed[step];
        }

        int valuesLeft(int thing, int kind) {
            return (may[kind] >> (MOST_THINGS * thing)) & ROW;
        }

        int waysLeft(int person) {
            return (mayBe >> (2 * person)) & 3;
        }

        void finish() {
            if (finished) {
                return;
            }
            finished = true;
            boolean more = true;
            for (int i = 0; i < MOST_STEPS && more; i++) {
                more = takeStep();
            }
        }

        private boolean takeStep() {
            int layouts = walk.choose(may);
            for (int clue = 0; clue < puzzle.clueCount(); clue++) {
                look(puzzle.clue(clue), layouts);
                int unseen = countUnseen();
                if (unseen > 0) {
                    crossOut(clue, unseen);
                    return true;
                }
            }
            return false;
        }

        /** Notes all that is so in some open state in which the clue holds. */
        private void look(Clue clue, int layouts) {
            Arrays.fill(seen, 0);
            int openParties = openParties();
            int seenParties = 0;
            walk.start();
            for (int i = 0; i < layouts; i++) {
                int parties = clue.holds(walk.thing()) & openParties;
                if (parties != 0) {
                    seenParties |= parties;
                    seeLayout();
                }
                walk.next();
            }
            seenToBe = waysIn(seenParties);
        }

        private void seeLayout() {
            for (int kind = 0; kind < puzzle.kinds(); kind++) {
                seen[kind] |= puzzle.orders().ticks(walk.order(kind));
            }
        }

        private int openParties() {
            int parties = puzzle.parties();
            for (int person = 0; person < puzzle.persons(); person++) {
                int ways = waysLeft(person);
                int lying = (ways & 1) != 0 ? ~TRUTHFUL[person] : 0;
                int truthful = (ways & 2) != 0 ? TRUTHFUL[person] : 0;
                parties &= lying | truthful;
            }
            return parties;
        }

        private int waysIn(int parties) {
            int ways = 0;
            for (int person = 0; person < puzzle.persons(); person++) {
                int lying = (parties & ~TRUTHFUL[person]) != 0 ? 1 : 0;
                int truthful = (parties & TRUTHFUL[person]) != 0 ? 2 : 0;
                ways |= (lying | truthful) << (2 * person);
            }
            return ways;
        }

        private int countUnseen() {
            int unseen = Integer.bitCount(mayBe & ~seenToBe);
            for (int kind = 0; kind < puzzle.kinds(); kind++) {
                unseen += Integer.bitCount(may[kind] & ~seen[kind]);
            }
            return unseen;
        }

        /** Only open states were looked at, so what was seen is just what may still be. */
        private void crossOut(int clue, int unseen) {
            for (int kind = 0; kind < puzzle.kinds(); kind++) {
                may[kind] = seen[kind];
            }
            mayBe = seenToBe;
            if (steps < MOST_STEPS) {
                stepClue[steps] = clue;
                stepCrossed[steps] = unseen;
                steps++;
            }
        }
    }
}
