/**
 * The bounds of the text, of unit(), read() and told(): a test for each piece of the document that
 * names one. No object gets more than 512 calls, for nothing is promised of later ones.
 */
public final class TextBoundsTest {
    private static final int LEAST = Integer.MIN_VALUE;
    private static final int MOST = Integer.MAX_VALUE;
    private static final String SIGNS = "=!<+tp~&|";
    private static final String VALUE_SIGNS = "=!<+";
    /** 300 bytes that can be read: ten clues, nine of them of 30 signs. */
    private static final String FULL = "103;" + ("~".repeat(29) + "t0;").repeat(9) + "~~~~~t1;";
    private static final int FULL_CLUES = 10;
    private static final String EVERY_SIGN = "433;=a0b1;!b2c3;<a0a3;+c1c1;t0;p0t1;~t2;&t0t1;|t0t1;";

    private static final Due due = new Due("TextBoundsTest");

    public static void main(String[] args) {
        newObject();
        withoutText();
        everyByteIsTaken();
        otherNumbersAreRefused();
        threeHundredBytes();
        heads();
        numbersOfClues();
        textIsGone();
        semicolonBehindEachClue();
        blanks();
        partsOfClues();
        firstBadByte();
        endsTooSoon();
        allStays();
        letters();
        numbersOfTheHead();
        digitsOfValues();
        digitsOfPersons();
        twentyFirstClue();
        countedSigns();
        thirtyFirstSign();
        signsOfEachClue();
        foundIsGone();
        told();
        due.end();
    }

    private static void newObject() {
        due.by("`ClueLogic()`: No text.");
        due.is("read()", new ClueLogic().read(), -1);
        due.is("read() of one byte", Due.read(new ClueLogic(), "1"), -2);
        due.is("read() of 300 bytes", Due.read(new ClueLogic(), FULL), FULL_CLUES);
        ClueLogic other = new ClueLogic();
        Due.give(other, "433;");
        due.is("read() beside an object that has a text", new ClueLogic().read(), -1);
    }

    private static void withoutText() {
        due.by("Without a text that was read: N is 1, K and M are 0, there are no clues.");
        showsNoText("a new object", new ClueLogic());
        ClueLogic refused = new ClueLogic();
        due.is("read() of nothing", refused.read(), -1);
        due.is("read() of a bad text", Due.read(refused, "433;t0;t3;"), -9);
        showsNoText("an object that refused all texts", refused);
        ClueLogic unread = new ClueLogic();
        Due.give(unread, "433;t0;");
        showsNoText("an object with a text that was not read", unread);
    }

    private static void showsNoText(String who, ClueLogic logic) {
        due.is("told(0) of " + who, logic.told(0), 1);
        due.is("told(1) of " + who, logic.told(1), 0);
        due.is("told(2) of " + who, logic.told(2), 0);
        due.is("often(0, 0, 0) of " + who, logic.often(0, 0, 0), -1);
        due.is("may(0, 0) of " + who, logic.may(0, 0), -1);
        due.is("mayBe(0) of " + who, logic.mayBe(0), -1);
        due.is("spare(0) of " + who, logic.spare(0), false);
        due.is("run() of " + who, logic.run(), 1);
        due.is("answer(0, 0, 0) of " + who, logic.answer(0, 0, 0), -1);
        due.is("truth(0, 0) of " + who, logic.truth(0, 0), -1);
        due.is("cross() of " + who, logic.cross(), 0);
        due.is("step(0, 0) of " + who, logic.step(0, 0), -1);
        due.is("step(0, 1) of " + who, logic.step(0, 1), -1);
    }

    private static void everyByteIsTaken() {
        due.by("A byte comes behind the text: true");
        for (int u = 0; u <= 255; u++) {
            ClueLogic logic = new ClueLogic();
            Due.give(logic, "433;");
            due.is("unit(" + u + ")", logic.unit(u), true);
            // A sign may be there, but then the text ends too soon; without the byte it would be good.
            due.is("read() behind unit(" + u + ")", logic.read(), SIGNS.indexOf(u) >= 0 ? -6 : -5);
        }
        ClueLogic logic = Due.of("312;");
        due.is("told(0)", logic.told(0), 3);
        due.is("told(1)", logic.told(1), 1);
        due.is("told(2)", logic.told(2), 2);
    }

    private static void otherNumbersAreRefused() {
        due.by("false, doing nothing, when it is not 0 to 255");
        String text = "102;~t1;";
        for (int place = 0; place <= text.length(); place++) {
            ClueLogic logic = new ClueLogic();
            Due.give(logic, text.substring(0, place));
            int next = text.charAt(place % text.length());
            for (int u : new int[] {-1, -2, 256, 257, next + 256, next - 256, next + 65536, next + LEAST, LEAST, MOST}) {
                due.is("unit(" + u + ") behind " + place, logic.unit(u), false);
            }
            Due.give(logic, text.substring(place));
            due.is("read() with others at " + place, logic.read(), 1);
            due.is("run()", logic.run(), 2);
            due.is("told(2)", logic.told(2), 2);
        }
    }

    private static void threeHundredBytes() {
        due.by("or there are 300");
        due.is("length of the text", FULL.length(), 300);
        ClueLogic logic = new ClueLogic();
        for (int i = 0; i < 100; i++) {
            logic.unit(-1 - i);
        }
        for (int i = 0; i < 300; i++) {
            due.is("unit behind " + i, logic.unit(FULL.charAt(i)), true);
        }
        for (int u : new int[] {0, ';', 't', 255, -1, 256, MOST}) {
            due.is("unit(" + u + ") behind 300", logic.unit(u), false);
        }
        due.is("read() of 300", logic.read(), FULL_CLUES);
        due.is("run()", logic.run(), 2);

        logic = Due.of(FULL);
        for (int i = 0; i < 200; i++) {
            due.is("unit behind 300 that were read", logic.unit('1'), true);
        }
        logic = new ClueLogic();
        due.is("read() of a bad text of 300", Due.read(logic, "x".repeat(300)), -1);
        for (int i = 0; i < 200; i++) {
            due.is("unit behind 300 that were refused", logic.unit('1'), true);
        }
    }

    private static void heads() {
        due.by("three digits N, K, M and a semicolon");
        for (int n = 1; n <= 4; n++) {
            for (int k = 0; k <= 3; k++) {
                for (int m = 0; m <= 3; m++) {
                    String head = "" + n + k + m;
                    good(head + ";", 0);
                    bad(head, 3);
                    bad(head + ":", 3);
                    bad(head + "t0;", 3);
                    bad(head + "0;", 3);
                    bad(head + ";;", 4);
                }
            }
        }
        bad(";", 0);
        bad("4;", 1);
        bad("43;", 2);
    }

    private static void numbersOfClues() {
        due.by("The text is read (and is gone then): how many clues.");
        for (int clues = 0; clues <= 20; clues++) {
            good("101;" + "t0;".repeat(clues), clues);
            good("430;" + "=a0b0;".repeat(clues), clues);
        }
    }

    private static void textIsGone() {
        due.by("(and is gone then)");
        ClueLogic logic = new ClueLogic();
        due.is("read()", Due.read(logic, "201;t0;"), 1);
        due.is("read() again", logic.read(), -1);
        due.is("read() of what could stand behind", Due.read(logic, "t0;"), -1);
        due.is("read() of a new text", Due.read(logic, "302;"), 0);
        due.is("told(0)", logic.told(0), 3);
        due.is("read() of a bad text", Due.read(logic, "40"), -3);
        due.is("read() again", logic.read(), -1);
        due.is("read() of what could stand behind", Due.read(logic, "0;"), -1);
        due.is("told(0)", logic.told(0), 3);
        due.is("read() of a new text", Due.read(logic, "100;"), 0);
        due.is("told(0)", logic.told(0), 1);
    }

    private static void semicolonBehindEachClue() {
        due.by("each with a semicolon behind it, at most 20");
        bad("103;t0", 6);
        bad("103;t0t1;", 6);
        bad("103;t0,t1;", 6);
        bad("103;t0:", 6);
        bad("103;t0;;", 7);
        bad("103;;t0;", 4);
        bad("103;t0;t1", 9);
        good("103;t0;t1;", 2);
        bad("410;=a0a1=a0a1;", 9);
        good("101;" + "t0;".repeat(20), 20);
        bad("101;" + "t0;".repeat(20) + ";", 64);
        bad("101;" + "t0;".repeat(21), 66);
    }

    private static void blanks() {
        due.by("A clue is, without blanks");
        String text = "433;p0&=a0b1~t2;t1;";
        good(text, 2);
        for (int place = 0; place <= text.length(); place++) {
            for (char blank : " \t\n\r\u00a0".toCharArray()) {
                bad(text.substring(0, place) + blank + text.substring(place), place);
            }
        }
    }

    private static void partsOfClues() {
        due.by("v and w are values: a letter a, b or c for the kind and a digit.");
        for (char sign : VALUE_SIGNS.toCharArray()) {
            good("433;" + sign + "a0c3;", 1);
            bad("433;" + sign + ";", 5);
            bad("433;" + sign + "a;", 6);
            bad("433;" + sign + "aa;", 6);
            bad("433;" + sign + "0a;", 5);
            bad("433;" + sign + "a0;", 7);
            bad("433;" + sign + "a0b;", 8);
            bad("433;" + sign + "a0b0c0;", 9);
            bad("433;" + sign + "t0t0;", 5);
        }
        due.by("t and a digit: that person is truthful. p, a digit and a clue");
        bad("433;t;", 5);
        bad("433;tt0;", 5);
        bad("433;t00;", 6);
        bad("433;p;", 5);
        bad("433;pt0;", 5);
        bad("433;p0;", 6);
        bad("433;p00;", 6);
        bad("433;p0t0t0;", 8);
        good("433;p0p1p2t0;", 1);
        due.by("~ and a clue: it does not hold. & and two clues: both hold. | and two clues: one of them or both.");
        bad("433;~;", 5);
        bad("433;~t0t0;", 7);
        for (char sign : "&|".toCharArray()) {
            bad("433;" + sign + ";", 5);
            bad("433;" + sign + "t0;", 7);
            good("433;" + sign + "t0t1;", 1);
            bad("433;" + sign + "t0t1t2;", 9);
            bad("433;t0" + sign + "t1;", 6);
        }
    }

    private static void firstBadByte() {
        due.by("-1 less the place of the first byte that may not be there");
        for (int place = 0; place < 300; place++) {
            bad(FULL.substring(0, place) + '\0' + FULL.substring(place + 1), place);
        }
        for (int place = 0; place < EVERY_SIGN.length(); place++) {
            String before = EVERY_SIGN.substring(0, place);
            bad(before + "\u00ff" + EVERY_SIGN.substring(place + 1), place);
            bad(before + "?".repeat(EVERY_SIGN.length() - place), place);
            bad(before + "?", place);
        }
    }

    private static void endsTooSoon() {
        due.by("(how many bytes there are, when it ends too soon)");
        for (String text : new String[] {EVERY_SIGN, FULL, "431;p0|&=a0b1~t0!c2c3;"}) {
            int clues = -1;
            for (int length = 0; length <= text.length(); length++) {
                String start = text.substring(0, length);
                if (start.endsWith(";")) {
                    clues++;
                    good(start, clues);
                } else {
                    bad(start, length);
                }
            }
        }
        bad(FULL.substring(0, 299) + "~", 299);
        bad(FULL.substring(0, 292) + "~".repeat(8), 300);
    }

    /** Of two objects that were used in the same way only one refuses a text. */
    private static void allStays() {
        due.by("then all stays as it was");
        String[] refused = {"", "5", "43", "433", "433;t3;", "433;t0;t", "101;" + "t0;".repeat(21), "\u00ff"};
        for (int use = 0; use < 6; use++) {
            String shown = Shown.by(used(use));
            for (String text : refused) {
                ClueLogic logic = used(use);
                due.holds("'" + text + "' is refused", Due.read(logic, text) < 0);
                due.is("what is shown behind use " + use + " and '" + text + "'", Shown.by(logic), shown);
            }
        }
        ClueLogic logic = used(5);
        for (int i = 0; i < 200; i++) {
            logic.read();
        }
        due.is("what is shown behind 200 refused texts", Shown.by(logic), Shown.by(used(5)));
    }

    /** An object that was used in one of six ways, from a new one on. */
    private static ClueLogic used(int use) {
        ClueLogic logic = new ClueLogic();
        if (use >= 1) {
            Due.read(logic, "322;<a0b1;p0t1;=a1b1;t1;");
        }
        if (use == 2 || use >= 4) {
            logic.run();
        }
        if (use >= 3) {
            logic.cross();
        }
        if (use == 5) {
            Due.read(logic, "432;t0;<a0b0;");
            logic.run();
            logic.cross();
        }
        return logic;
    }

    private static void letters() {
        due.by("A letter may not be there when there is no such kind");
        for (int kinds = 0; kinds <= 3; kinds++) {
            for (char letter : "`abcdez@ABC0".toCharArray()) {
                boolean there = letter >= 'a' && letter < 'a' + kinds;
                for (char sign : VALUE_SIGNS.toCharArray()) {
                    judge(there, "4" + kinds + "1;" + sign + letter + "0a0;", 5);
                    if (kinds > 0) {
                        judge(there, "4" + kinds + "1;" + sign + "a0" + letter + "0;", 7);
                    }
                }
            }
        }
    }

    private static void numbersOfTheHead() {
        due.by("a digit when there is no such number, value, thing or person");
        for (char c = 0; c <= 255; c++) {
            judgeHead(c >= '1' && c <= '4', c + "00;", 0);
            judgeHead(c >= '0' && c <= '3', "4" + c + "0;", 1);
            judgeHead(c >= '0' && c <= '3', "40" + c + ";", 2);
            judgeHead(c == ';', "400" + c, 3);
        }
    }

    private static void digitsOfValues() {
        due.by("a digit when there is no such number, value");
        for (int things = 1; things <= 4; things++) {
            for (char digit = '/'; digit <= ':'; digit++) {
                boolean there = digit >= '0' && digit < '0' + things;
                for (char sign : VALUE_SIGNS.toCharArray()) {
                    judge(there, things + "31;" + sign + "c" + digit + "a0;", 6);
                    judge(there, things + "31;" + sign + "a0c" + digit + ";", 8);
                }
            }
        }
    }

    private static void digitsOfPersons() {
        due.by("a digit when there is no such number, value, thing or person");
        for (int persons = 0; persons <= 3; persons++) {
            for (char digit = '/'; digit <= ':'; digit++) {
                boolean there = digit >= '0' && digit < '0' + persons;
                judge(there, "41" + persons + ";t" + digit + ";", 5);
                judge(there, "41" + persons + ";p" + digit + "=a0a0;", 5);
                judge(there, "41" + persons + ";~t" + digit + ";", 6);
            }
        }
    }

    private static void twentyFirstClue() {
        due.by("neither may the semicolon behind a 21st clue");
        String twenty = "101;" + "t0;".repeat(20);
        good(twenty, 20);
        bad(twenty + "t", 65);
        bad(twenty + "t0", 66);
        bad(twenty + "t0;", 66);
        bad(twenty + "t0;t0;", 66);
        bad(twenty + "t0;?", 66);
        bad(twenty + "~p0&t0t0;", 64 + 8);
        bad(twenty + "?", 64);
        bad(twenty + ";", 64);
        bad(twenty + "t1;", 65);
        bad(twenty + "~;", 65);
        ClueLogic logic = new ClueLogic();
        due.is("read() of 20", Due.read(logic, twenty), 20);
        due.is("read() of 20 more", Due.read(logic, twenty), 20);
        due.is("read() of 21", Due.read(logic, twenty + "t0;"), -67);
        due.is("read() of 20 behind that", Due.read(logic, twenty), 20);
    }

    private static void countedSigns() {
        due.by("any byte of a clue by which more than 30 signs ( = ! < + t p ~ & | ) would be in it");
        for (char sign : SIGNS.toCharArray()) {
            good("431;" + withSign(sign, 30) + ";", 1);
            good("431;" + withSign(sign, 29) + ";", 1);
            String tooMany = "431;" + withSign(sign, 31);
            bad(tooMany + ";", tooMany.length() - 2);
            bad(tooMany, tooMany.length() - 2);
            tooMany = "431;" + withSign(sign, 32);
            bad(tooMany + ";", tooMany.length() - 3);
        }
        good("431;~~~" + "&".repeat(13) + "=a0b1!c2a3<b0c1+a2b3".repeat(3) + "=a0a0!b0b0;", 1);
        good("431;" + "p0".repeat(29) + "t0;", 1);
        bad("431;" + "p0".repeat(30) + "t0;", 4 + 60);
    }

    /** A clue of so many signs, the given one early among them; its last sign is a t, the one before that a ~. */
    private static String withSign(char sign, int signs) {
        String end = "~".repeat(signs - 3) + "t0";
        switch (sign) {
            case 't':
                return "&t0" + end;
            case 'p':
                return "p0~" + end;
            case '~':
                return "~~" + end;
            case '&':
            case '|':
                return sign + "t0" + end;
            default:
                return "|" + sign + "a0b1" + end;
        }
    }

    private static void thirtyFirstSign() {
        due.by("any byte of a clue by which more than 30 signs ( = ! < + t p ~ & | ) would be in it");
        String thirty = "431;" + "~".repeat(30);
        for (char sign : SIGNS.toCharArray()) {
            bad(thirty + sign, 34);
            bad(thirty + sign + "0t0;", 34);
            bad(thirty + sign + "a0a0;", 34);
        }
        String twentyNine = "431;" + "~".repeat(29);
        for (char sign : VALUE_SIGNS.toCharArray()) {
            good(twentyNine + sign + "a0a0;", 1);
        }
        good(twentyNine + "t0;", 1);
        bad(twentyNine + "p0t0;", 35);
        bad(twentyNine + "~t0;", 34);
        bad(twentyNine + "&t0t0;", 34);
        bad(twentyNine + "|t0t0;", 34);
        bad("431;" + "~".repeat(28) + "&t0t0;", 35);
        bad("431;" + "~".repeat(27) + "&t0~t0;", 35);
        good("431;" + "~".repeat(27) + "&t0t0;", 1);
        bad("431;" + "~".repeat(26) + "|t0&t0t0;", 36);
        good("431;" + "~".repeat(25) + "|t0&t0t0;", 1);
    }

    private static void signsOfEachClue() {
        due.by("any byte of a clue by which more than 30 signs");
        String thirty = "~".repeat(29) + "t0;";
        for (int clues = 1; clues <= 9; clues++) {
            good("101;" + thirty.repeat(clues), clues);
        }
        bad("101;" + thirty.repeat(8) + "~" + thirty, 4 + 8 * 32 + 30);
        bad("101;t0;~" + thirty, 4 + 3 + 30);
        bad("101;" + "t0;".repeat(20) + "~" + thirty, 64 + 30);
        bad("101;" + "t0;".repeat(20) + thirty, 64 + 31);
        ClueLogic logic = Due.of("101;" + thirty);
        due.is("read() behind a clue of 30 signs", Due.read(logic, "101;" + thirty), 1);
        due.is("read() of 31 signs", Due.read(logic, "101;~" + thirty), -35);
        due.is("read() behind a clue of 31 signs", Due.read(logic, "101;" + thirty), 1);
    }

    private static void foundIsGone() {
        due.by("What was found is gone otherwise.");
        for (String text : new String[] {"322;<a0b1;p0t1;=a1b1;t1;", "432;t0;<a0b0;", "100;", "413;", "133;t0;t1;t2;"}) {
            String shown = Shown.by(Due.of(text));
            for (int use = 0; use < 6; use++) {
                ClueLogic logic = used(use);
                due.holds("'" + text + "' is read", Due.read(logic, text) >= 0);
                due.is("what is shown behind use " + use + " and " + text, Shown.by(logic), shown);
            }
        }
        ClueLogic logic = Due.of("322;<a0b1;t1;");
        due.holds("there are answers", logic.run() > 0);
        due.is("cross()", logic.cross(), 2);
        due.is("answer(0, 0, 0) before read()", logic.answer(0, 0, 0), 0);
        due.is("truth(0, 1) before read()", logic.truth(0, 1), 1);
        due.is("mayBe(1) before read()", logic.mayBe(1), 2);
        due.is("may(0, 1) before read()", logic.may(0, 1), 5);
        due.is("read() of the same text", Due.read(logic, "322;<a0b1;t1;"), 2);
        due.is("answer(0, 0, 0)", logic.answer(0, 0, 0), -1);
        due.is("truth(0, 1)", logic.truth(0, 1), -1);
        due.is("step(0, 0)", logic.step(0, 0), -1);
        due.is("step(1, 1)", logic.step(1, 1), -1);
        due.is("mayBe(1)", logic.mayBe(1), 3);
        due.is("may(0, 1)", logic.may(0, 1), 7);
    }

    private static void told() {
        due.by("N, K or M, as what is 0, 1 or 2; -1 for others.");
        for (int n = 1; n <= 4; n++) {
            for (int k = 0; k <= 3; k++) {
                for (int m = 0; m <= 3; m++) {
                    ClueLogic logic = Due.of("" + n + k + m + ";");
                    due.is("told(0)", logic.told(0), n);
                    due.is("told(1)", logic.told(1), k);
                    due.is("told(2)", logic.told(2), m);
                    due.is("told(-1)", logic.told(-1), -1);
                    due.is("told(3)", logic.told(3), -1);
                }
            }
        }
        ClueLogic logic = Due.of("433;t0;");
        for (int what : Due.NEVER) {
            due.is("told(" + what + ")", logic.told(what), -1);
            due.is("told(" + what + ") of a new object", new ClueLogic().told(what), -1);
        }
    }

    private static void good(String text, int clues) {
        due.is("read() of " + text, Due.read(new ClueLogic(), text), clues);
    }

    private static void bad(String text, int place) {
        due.is("read() of " + text, Due.read(new ClueLogic(), text), -1 - place);
    }

    /** A text of one clue that is good or has its first bad byte at a place. */
    private static void judge(boolean isGood, String text, int place) {
        due.is("read() of " + text, Due.read(new ClueLogic(), text), isGood ? 1 : -1 - place);
    }

    private static void judgeHead(boolean isGood, String text, int place) {
        due.is("read() of " + text, Due.read(new ClueLogic(), text), isGood ? 0 : -1 - place);
    }
}
