/** DECIMALS, the PAD and the TEXT, the letters: promises 1 to 9. */
public final class EdgesOfDecimals extends Edges {
    private static final String OPERATORS = "+-*/";
    private static final String LEAVES = "abcde0123456789";

    public static void main(String[] args) {
        testNew();
        testDecimals();
        testRound();
        testPad();
        testText();
        testLetters();
        end("the edges of decimals and texts");
    }

    private static void testNew() {
        test("The TEXT is a; no TERMS; the PAD is empty.", EdgesOfDecimals::newObject);
        test("The TEXT is a at first.", EdgesOfDecimals::textAtFirst);
    }

    private static void testDecimals() {
        test("numbers of up to DIGITS (1 to 4; 3 at first) digits", EdgesOfDecimals::digits);
        test("digits from the first one that is not 0 on", EdgesOfDecimals::digitsFromTheFirst);
        test("from 0.000001 to below 10000000 (and below 0 likewise)", EdgesOfDecimals::leastAndGreatestDecimal);
        test("Told in billionths they are whole numbers.", EdgesOfDecimals::wholeBillionths);
        test("(0 to the nearest one,", EdgesOfDecimals::nearest);
        test("of two as near to that whose last digit is even;", EdgesOfDecimals::asNear);
        test("1 towards 0; 2 up; 3 down; 0 at first)", EdgesOfDecimals::ways);
        test("the nearest such one of that many digits, however near to 0;", EdgesOfDecimals::roundedBeforeItIsNought);
        test("if that is nearer to 0 than 0.000001, it is 0 (by each WAY);", EdgesOfDecimals::nearerThanTheLeast);
        test("if it is 10000000 or more (-10000000 or less), it is GREAT.", EdgesOfDecimals::tenMillions);
        test("0 DIGITS, 1 WAY: which it was. OUTSIDE.", EdgesOfDecimals::set);
    }

    private static void testRound() {
        test("ROUNDED of upper by lower times 10 to some power (-9 to 9)", EdgesOfDecimals::powers);
        test("OUTSIDE: upper -1000000 to 1000000,", EdgesOfDecimals::uppers);
        test("lower 1 to 1000000.", EdgesOfDecimals::lowers);
    }

    private static void testPad() {
        test("A sign more: how many. OUTSIDE;", EdgesOfDecimals::signsOutside);
        test("(codes 33 to 126)", EdgesOfDecimals::codes);
        test("OUTSIDE; FULL: 20.", EdgesOfDecimals::twentySigns);
        test("Signs go: how many there were.", EdgesOfDecimals::wipe);
    }

    private static void testText() {
        test("+ - * or / and two texts; a letter a to e; a digit.", EdgesOfDecimals::kindsOfSigns);
        test("the place (from 0 on) of the first sign that can not stand there", EdgesOfDecimals::placesOfFaults);
        test("(a 14th, too);", EdgesOfDecimals::fourteenth);
        test("the number of signs, if more must come.", EdgesOfDecimals::moreMustCome);
        test("THE FAULT; NONE.", EdgesOfDecimals::noFault);
        test("A TEXT of up to 13 signs", EdgesOfDecimals::longestText);
        test("The signs are the TEXT (they are gone then): how many.", EdgesOfDecimals::text);
        test("NO: there is a FAULT.", EdgesOfDecimals::textWithFault);
        test("The sign of a STEP. UNKNOWN.", EdgesOfDecimals::sign);
    }

    private static void testLetters() {
        test("LETTERS a to e are put in as whole numbers (-99 to 99; 1 at first).", EdgesOfDecimals::numbersOfLetters);
        test("of each letter from its number on so many more (0 to 5; 0 at first).", EdgesOfDecimals::spansOfLetters);
        test("A letter (0 to 4): its number (what = 0), its span (1): which it was (its number and 100). OUTSIDE.",
            EdgesOfDecimals::put);
    }

    private static void newObject() {
        LostDigits x = fresh();
        dueText(x, "a");
        due("told(4)", x.told(4), 0);
        due("told(0)", x.told(0), 0);
        due("about(0)", x.about(0), LOST - 1);
        due("clear()", x.clear(), 0);
        due("wipe()", x.wipe(), 0);
        due("restore(0)", x.restore(0), STATE);
        due("restore(1)", x.restore(1), STATE);
        // one object knows nothing of another
        rich();
        full();
        same("another new object", answers(fresh()), answers(x));
    }

    private static void textAtFirst() {
        LostDigits x = fresh();
        due("told(1)", x.told(1), 1);
        due("sign(0)", x.sign(0), 'a');
        due("sign(1)", x.sign(1), UNKNOWN);
        due("worked(0, 0)", x.worked(0, 0), ONE);
        x.put(0, 0, 42);
        due("worked(0, 0)", x.worked(0, 0), 42 * ONE);
    }

    private static void round(LostDigits x, int upper, int lower, int power, long want) {
        due("round(" + upper + ", " + lower + ", " + power + ") of " + x.told(2) + " digits by way " + x.told(3),
            x.round(upper, lower, power), want);
    }

    private static LostDigits turned(int digits, int way) {
        LostDigits x = fresh();
        x.set(0, digits);
        x.set(1, way);
        return x;
    }

    private static void digits() {
        due("told(2)", fresh().told(2), 3);
        round(fresh(), 123456, 1, 0, 123000 * ONE);
        round(turned(1, 0), 123456, 1, 0, 100000 * ONE);
        round(turned(2, 0), 123456, 1, 0, 120000 * ONE);
        round(turned(3, 0), 123456, 1, 0, 123000 * ONE);
        round(turned(4, 0), 123456, 1, 0, 123500 * ONE);
        round(turned(4, 1), 123456, 1, 0, 123400 * ONE);
        round(turned(4, 0), 1234, 1, 0, 1234 * ONE);
    }

    private static void digitsFromTheFirst() {
        round(turned(4, 0), 123456, 1, -9, 123500L);
        round(turned(3, 0), 123456, 1000000, -3, 123000L);
        round(turned(1, 0), 123456, 1, -9, 100000L);
        // noughts behind the first one count
        round(turned(3, 0), 100456, 1, 0, 100000 * ONE);
        round(turned(4, 0), 100456, 1, 0, 100500 * ONE);
        round(turned(2, 0), 104999, 1, -9, 100000L);
        round(turned(2, 0), 105001, 1, -9, 110000L);
    }

    private static void leastAndGreatestDecimal() {
        for (int digits = 1; digits <= 4; digits++) {
            for (int way = 0; way < 4; way++) {
                for (int sign = -1; sign <= 1; sign += 2) {
                    LostDigits x = turned(digits, way);
                    round(x, sign, 1, -6, sign * 1000L);
                    round(x, sign * NINES[digits - 1], 1000000, -6, 0);
                    round(x, sign * NINES[digits - 1], 1, 1, sign * NINES[digits - 1] * 10 * ONE);
                    round(x, sign, 1, 7, GREAT);
                }
                round(turned(digits, way), 0, 1, 0, 0);
            }
        }
    }

    private static void wholeBillionths() {
        LostDigits x = turned(4, 0);
        round(x, 1234, 1000, -6, 1234);
        round(x, 1001, 1000, -6, 1001);
        round(x, 10005, 10000, -6, 1000);
        round(x, 10015, 10000, -6, 1002);
        round(x, -10015, 10000, -6, -1002);
        x.set(1, 2);
        round(x, 100001, 100000, -6, 1001);
        x.set(1, 3);
        round(x, -100001, 100000, -6, -1001);
    }

    private static void nearest() {
        LostDigits x = turned(1, 0);
        round(x, 249999, 10000, 0, 20 * ONE);
        round(x, 250001, 10000, 0, 30 * ONE);
        round(x, 349999, 10000, 0, 30 * ONE);
        round(x, 350001, 10000, 0, 40 * ONE);
        round(x, -249999, 10000, 0, -20 * ONE);
        round(x, -250001, 10000, 0, -30 * ONE);
        x = turned(4, 0);
        round(x, 123449, 10, 0, 12340 * ONE);
        round(x, 123451, 10, 0, 12350 * ONE);
        round(x, 1, 3, 0, 333300000L);
        round(x, 2, 3, 0, 666700000L);
        round(x, -2, 3, 0, -666700000L);
    }

    private static void asNear() {
        int[] ones = {15, 25, 35, 45, 55, 65, 75, 85, 95};
        int[] wants = {20, 20, 40, 40, 60, 60, 80, 80, 100};
        for (int i = 0; i < ones.length; i++) {
            round(turned(1, 0), ones[i], 1, 0, wants[i] * ONE);
            round(turned(1, 0), -ones[i], 1, 0, -wants[i] * ONE);
            round(turned(2, 0), 100 + ones[i], 1, 0, (100 + wants[i]) * ONE);
            round(turned(3, 0), 1200 + ones[i], 1, 0, (1200 + wants[i]) * ONE);
            round(turned(4, 0), 12300 + ones[i], 1, 0, (12300 + wants[i]) * ONE);
        }
        round(turned(2, 0), 995, 1, 0, 1000 * ONE);
        round(turned(2, 0), 985, 1, 0, 980 * ONE);
        round(turned(3, 0), 9995, 1, 0, 10000 * ONE);
        round(turned(4, 0), 99995, 1, 0, 100000 * ONE);
        round(turned(2, 0), 1, 8, 0, 120000000L);
        round(turned(2, 0), 3, 8, 0, 380000000L);
    }

    private static void ways() {
        due("told(3)", fresh().told(3), 0);
        long[] above = {667, 666, 667, 666};
        long[] below = {-667, -666, -666, -667};
        long[] little = {1000, 1000, 1010, 1000};
        long[] littleBelow = {-1000, -1000, -1000, -1010};
        for (int way = 0; way < 4; way++) {
            LostDigits x = turned(3, way);
            round(x, 2, 3, 0, above[way] * 1000000);
            round(x, -2, 3, 0, below[way] * 1000000);
            round(x, 1000000, 999999, 3, little[way] * ONE);
            round(x, -1000000, 999999, 3, littleBelow[way] * ONE);
            // what has so few digits is left as it is
            round(x, 1230, 1, 0, 1230 * ONE);
            round(x, -1230, 1, 0, -1230 * ONE);
        }
    }

    /** Of 1 digit 0.00000095 is as near to 0.0000009 as to 0.000001, and that is no longer nearer than 0.000001. */
    private static void roundedBeforeItIsNought() {
        for (int digits = 1; digits <= 4; digits++) {
            int middle = MIDDLES[digits - 1];
            int nines = NINES[digits - 1];
            roundTiny(digits, 0, middle, 1000, middle - 1);
            roundTiny(digits, 0, -middle, -1000, 1 - middle);
            roundTiny(digits, 2, nines + 1, 1000, nines);
            roundTiny(digits, 3, -nines - 1, -1000, -nines);
        }
    }

    /** Millionths of 0.000001: one that is just not nearer to 0, and the one beside it that is. */
    private static void roundTiny(int digits, int way, int last, long want, int first) {
        LostDigits x = turned(digits, way);
        round(x, last, 1000000, -6, want);
        round(x, first, 1000000, -6, 0);
    }

    private static void nearerThanTheLeast() {
        for (int digits = 1; digits <= 4; digits++) {
            roundTiny(digits, 1, 1000000, 1000, 999999);
            roundTiny(digits, 1, -1000000, -1000, -999999);
            roundTiny(digits, 2, -1000000, -1000, -999999);
            roundTiny(digits, 3, 1000000, 1000, 999999);
            for (int way = 0; way < 4; way++) {
                LostDigits x = turned(digits, way);
                round(x, 1, 1000000, -9, 0);
                round(x, -1, 1000000, -9, 0);
                round(x, 1, 1, -7, 0);
                round(x, -1, 1, -7, 0);
                round(x, 9, 1, -7, 0);
                round(x, -9, 1, -7, 0);
            }
        }
    }

    private static void tenMillions() {
        for (int digits = 1; digits <= 4; digits++) {
            int middle = MIDDLES[digits - 1];
            int nines = NINES[digits - 1];
            roundGreat(digits, 0, middle - 1, middle);
            roundGreat(digits, 0, 1 - middle, -middle);
            roundGreat(digits, 1, 999999, 1000000);
            roundGreat(digits, 1, -999999, -1000000);
            roundGreat(digits, 2, nines, nines + 1);
            roundGreat(digits, 2, -999999, -1000000);
            roundGreat(digits, 3, 999999, 1000000);
            roundGreat(digits, 3, -nines, -nines - 1);
            for (int way = 0; way < 4; way++) {
                round(turned(digits, way), 1000000, 1, 9, GREAT);
                round(turned(digits, way), -1000000, 1, 9, GREAT);
            }
        }
    }

    /** Tens: the last ones that are the greatest decimal of that many digits, and the first that are GREAT. */
    private static void roundGreat(int digits, int way, int last, int first) {
        LostDigits x = turned(digits, way);
        round(x, last, 1, 1, (last < 0 ? -10 : 10) * NINES[digits - 1] * ONE);
        round(x, first, 1, 1, GREAT);
    }

    private static void set() {
        LostDigits x = fresh();
        int was = 3;
        for (int digits : new int[] {1, 4, 2, 3, 4}) {
            due("set(0, " + digits + ")", x.set(0, digits), was);
            due("told(2)", x.told(2), digits);
            due("told(3)", x.told(3), 0);
            was = digits;
        }
        was = 0;
        for (int way : new int[] {3, 1, 2, 0, 0}) {
            due("set(1, " + way + ")", x.set(1, way), was);
            due("told(3)", x.told(3), way);
            due("told(2)", x.told(2), 4);
            was = way;
        }
        refused("set(0, 0)", Edges::small, y -> y.set(0, 0), OUTSIDE);
        refused("set(0, 5)", Edges::small, y -> y.set(0, 5), OUTSIDE);
        refused("set(0, -1)", Edges::small, y -> y.set(0, -1), OUTSIDE);
        refused("set(1, -1)", Edges::small, y -> y.set(1, -1), OUTSIDE);
        refused("set(1, 4)", Edges::small, y -> y.set(1, 4), OUTSIDE);
        refused("set(-1, 2)", Edges::small, y -> y.set(-1, 2), OUTSIDE);
        refused("set(2, 2)", Edges::small, y -> y.set(2, 2), OUTSIDE);
        refusedAll("set(0, v)", WILD, (y, v) -> y.set(0, v), OUTSIDE);
        refusedAll("set(1, v)", WILD, (y, v) -> y.set(1, v), OUTSIDE);
        refusedAll("set(v, 1)", WILD, (y, v) -> y.set(v, 1), OUTSIDE);
    }

    private static void powers() {
        LostDigits x = fresh();
        round(x, 1, 1000000, 9, 1000 * ONE);
        round(x, 1000000, 1, -9, 1000000);
        round(x, -1, 1000000, 9, -1000 * ONE);
        long[] wants = {0, 0, 0, 1000, 10000, 100000, 1000000, 10000000, 100000000, ONE,
            10 * ONE, 100 * ONE, 1000 * ONE, 10000 * ONE, 100000 * ONE, 1000000 * ONE, GREAT, GREAT, GREAT};
        for (int power = -9; power <= 9; power++) {
            round(x, 1, 1, power, wants[power + 9]);
        }
        refused("round(0, 1, 10)", Edges::small, y -> y.round(0, 1, 10), LOST - 2);
        refused("round(0, 1, -10)", Edges::small, y -> y.round(0, 1, -10), LOST - 2);
        refusedAll("round(1, 1, v)", WILD, (y, v) -> y.round(1, 1, v), LOST - 2);
        // no call of it changes anything, with what it answers either
        refused("round(1, 3, 0)", Edges::rich, y -> y.round(1, 3, 0), 330000000);
    }

    private static void uppers() {
        LostDigits x = fresh();
        round(x, 1000000, 1, 0, 1000000 * ONE);
        round(x, -1000000, 1, 0, -1000000 * ONE);
        round(x, 0, 1, 0, 0);
        round(x, 0, 1000000, 9, 0);
        round(x, 0, 1000000, -9, 0);
        refused("round(1000001, 1, 0)", Edges::small, y -> y.round(1000001, 1, 0), LOST - 2);
        refused("round(-1000001, 1, 0)", Edges::small, y -> y.round(-1000001, 1, 0), LOST - 2);
        for (int v : new int[] {Integer.MIN_VALUE, -1000002, 1000002, Integer.MAX_VALUE}) {
            refused("round(" + v + ", 1, 0)", Edges::small, y -> y.round(v, 1, 0), LOST - 2);
        }
    }

    private static void lowers() {
        LostDigits x = fresh();
        round(x, 7, 1, 0, 7 * ONE);
        round(x, 7, 1000000, 6, 7 * ONE);
        round(x, 1000000, 1000000, 0, ONE);
        refused("round(7, 0, 0)", Edges::small, y -> y.round(7, 0, 0), LOST - 2);
        refused("round(0, 0, 0)", Edges::small, y -> y.round(0, 0, 0), LOST - 2);
        refused("round(7, -1, 0)", Edges::small, y -> y.round(7, -1, 0), LOST - 2);
        refused("round(7, 1000001, 0)", Edges::small, y -> y.round(7, 1000001, 0), LOST - 2);
        for (int v : new int[] {Integer.MIN_VALUE, -1000000, 1000002, Integer.MAX_VALUE}) {
            refused("round(1, " + v + ", 0)", Edges::small, y -> y.round(1, v, 0), LOST - 2);
        }
    }

    private static void signsOutside() {
        LostDigits x = fresh();
        due("say(33)", x.say(33), 1);
        due("say(126)", x.say(126), 2);
        due("told(0)", x.told(0), 2);
        refused("say(32)", Edges::small, y -> y.say(32), OUTSIDE);
        refused("say(127)", Edges::small, y -> y.say(127), OUTSIDE);
        refused("say(0)", Edges::small, y -> y.say(0), OUTSIDE);
        refused("say(-33)", Edges::small, y -> y.say(-33), OUTSIDE);
        refused("say(353)", Edges::small, y -> y.say('a' + 256), OUTSIDE);
        refusedAll("say(v)", WILD, (y, v) -> y.say(v), OUTSIDE);
    }

    private static void codes() {
        for (int code = -1; code <= 260; code++) {
            LostDigits x = padded("+");
            boolean isSign = code >= 33 && code <= 126;
            due("say(" + code + ")", x.say(code), isSign ? 2 : OUTSIDE);
            due("told(0)", x.told(0), isSign ? 2 : 1);
        }
    }

    private static void twentySigns() {
        LostDigits x = fresh();
        for (int i = 1; i <= 20; i++) {
            due("say", x.say(96 + i), i);
        }
        due("say", x.say('a'), FULL);
        due("told(0)", x.told(0), 20);
        refused("the 21st sign", Edges::full, y -> y.say('a'), FULL);
        // 19 signs are not 20
        x = padded("abcdeabcdeabcdeabcd");
        due("told(0)", x.told(0), 19);
        due("say", x.say('e'), 20);
        due("say", x.say('e'), FULL);
        // there is room again when they are gone
        due("wipe()", x.wipe(), 20);
        due("say", x.say('e'), 1);
        due("text()", x.text(), 1);
        for (int i = 1; i <= 20; i++) {
            due("say", x.say('a'), i);
        }
        due("say", x.say('a'), FULL);
    }

    private static void wipe() {
        LostDigits x = fresh();
        due("wipe()", x.wipe(), 0);
        due("say", x.say('+'), 1);
        due("wipe()", x.wipe(), 1);
        due("wipe()", x.wipe(), 0);
        due("told(0)", x.told(0), 0);
        due("fault()", x.fault(), 0);
        due("say", x.say('b'), 1);
        due("fault()", x.fault(), NONE);
        x = full();
        String signs = shown(x);
        due("wipe()", x.wipe(), 20);
        due("wipe()", x.wipe(), 0);
        dueText(x, signs);
        due("told(4)", x.told(4), 7);
    }

    private static void fault(String signs, int want) {
        LostDigits x = padded(signs);
        due("fault() of " + signs, x.fault(), want);
        due("told(0) of " + signs, x.told(0), signs.length());
        due("text() of " + signs, x.text(), want == NONE ? signs.length() : NO);
        due("told(0) behind text() of " + signs, x.told(0), want == NONE ? 0 : signs.length());
    }

    private static void kindsOfSigns() {
        for (char c = 33; c <= 126; c++) {
            boolean isOperator = OPERATORS.indexOf(c) >= 0;
            boolean isLeaf = LEAVES.indexOf(c) >= 0;
            fault("" + c, isLeaf ? NONE : isOperator ? 1 : 0);
            fault("+" + c, isLeaf || isOperator ? 2 : 1);
            fault("*a" + c, isLeaf ? NONE : isOperator ? 3 : 2);
            fault("-" + c + "b", isLeaf ? NONE : isOperator ? 3 : 1);
            fault(c + "ab", isLeaf ? 1 : isOperator ? NONE : 0);
        }
    }

    private static void placesOfFaults() {
        fault("!", 0);
        fault("+!", 1);
        fault("+a!", 2);
        fault("+!!", 1);
        fault("aa", 1);
        fault("a+", 1);
        fault("a!", 1);
        fault("abcdefghijklm", 1);
        fault("+aba", 3);
        fault("+ab+ab", 3);
        fault("*-ab/cd!", 7);
        fault("*-ab/c!", 6);
        fault("++++++abcdea!", 12);
        fault("++++++abcdef", 11);
        fault("++++++abcdef14", 11);
        fault("+++++++++++++!", 13);
        fault("++++++++++++!+", 12);
    }

    private static void fourteenth() {
        fault("++++++abcdeab", NONE);
        for (char c = 33; c <= 126; c++) {
            // behind a whole text, and where one sign more would be due
            fault("++++++abcdeab" + c, 13);
            fault("+++++++abcdea" + c, 13);
        }
        fault("+++++++abcdeab", 13);
        fault("+++++++abcdeabc", 13);
        fault("++++++abcdeabcdeabcd", 13);
        fault("++++++++++++++++++++", 13);
        // an earlier one comes first
        fault("+++++abcdeab1234", 11);
    }

    private static void moreMustCome() {
        fault("", 0);
        StringBuilder signs = new StringBuilder();
        for (int i = 1; i <= 13; i++) {
            signs.append("+-*/".charAt(i % 4));
            fault(signs.toString(), i);
        }
        fault("+a", 2);
        fault("++ab", 4);
        fault("+a+b", 4);
        fault("++++++abcdea", 12);
        fault("+++++++abcdea", 13);
        fault("+a+a+a+a+a+a", 12);
        fault("+a+a+a+a+a+a+", 13);
    }

    private static void noFault() {
        fault("+a+a+a+a+a+ab", NONE);
        fault("++++++abcdeab", NONE);
        fault("/+*ab-cd+*eab", NONE);
        fault("*12", NONE);
        fault("9", NONE);
        LostDigits x = padded("+a");
        due("fault()", x.fault(), 2);
        due("fault()", x.fault(), 2);
        x.say('b');
        due("fault()", x.fault(), NONE);
        x.say('c');
        due("fault()", x.fault(), 3);
    }

    private static void longestText() {
        LostDigits x = padded("-a-b-c-d-e-12");
        due("text()", x.text(), 13);
        dueText(x, "-a-b-c-d-e-12");
        due("sign(12)", x.sign(12), '2');
        refused("text() of 14", () -> padded("-a-b-c-d-e-123"), LostDigits::text, NO);
        refused("text() of 15", () -> padded("-a-b-c-d-e-1-23"), LostDigits::text, NO);
        refused("text() of 13 and one to come", () -> padded("-a-b-c-d-e-1-"), LostDigits::text, NO);
        due("text() of 1", padded("7").text(), 1);
        refused("text() of 0", Edges::fresh, LostDigits::text, NO);
    }

    private static void text() {
        LostDigits x = rich();
        x.say('4');
        due("text()", x.text(), 3);
        dueText(x, "+a4");
        due("told(0)", x.told(0), 0);
        due("told(1)", x.told(1), 3);
        // all else is as it was
        due("told(2)", x.told(2), 2);
        due("told(3)", x.told(3), 3);
        due("told(4)", x.told(4), 3);
        due("told(10)", x.told(10), 198);
        due("told(20)", x.told(20), 1);
        due("worked(0, 0)", x.worked(0, 0), 100 * ONE);
        due("text()", x.text(), NO);
        dueText(x, "+a4");
        due("say", x.say('e'), 1);
    }

    private static void textWithFault() {
        for (String signs : new String[] {"", "+", "+a", "ab", "!", "+a!", "++++++abcdeabc"}) {
            refused("text() of " + signs, () -> padded(signs), LostDigits::text, NO);
        }
        refused("text() of +a", Edges::rich, LostDigits::text, NO);
        // what was on the PAD goes on
        LostDigits x = padded("+a");
        due("text()", x.text(), NO);
        due("say", x.say('3'), 3);
        due("text()", x.text(), 3);
        dueText(x, "+a3");
    }

    private static void sign() {
        LostDigits x = with("/+*ab-cd+*e10");
        String signs = "/+*ab-cd+*e10";
        for (int i = 0; i < 13; i++) {
            due("sign(" + i + ")", x.sign(i), signs.charAt(i));
        }
        due("sign(13)", x.sign(13), UNKNOWN);
        due("sign(-1)", x.sign(-1), UNKNOWN);
        // a shorter TEXT has left nothing of the longer one
        text(x, "*ab");
        due("sign(2)", x.sign(2), 'b');
        for (int i = 3; i < 15; i++) {
            due("sign(" + i + ")", x.sign(i), UNKNOWN);
        }
        refused("sign(3)", Edges::small, y -> y.sign(3), UNKNOWN);
        refused("sign(-1)", Edges::small, y -> y.sign(-1), UNKNOWN);
        refusedAll("sign(v)", WILD, (y, v) -> y.sign(v), UNKNOWN);
    }

    private static void numbersOfLetters() {
        LostDigits x = fresh();
        String letters = "abcde";
        for (int letter = 0; letter < 5; letter++) {
            due("told(1" + letter + ")", x.told(10 + letter), 101);
            text(x, letters.substring(letter, letter + 1));
            due("exact(0)", x.exact(0), 1);
            for (int v : new int[] {-99, 99, 0}) {
                x.put(letter, 0, v);
                due("exact(0)", x.exact(0), v);
                due("told(1" + letter + ")", x.told(10 + letter), v + 100);
            }
        }
    }

    private static void spansOfLetters() {
        LostDigits x = fresh();
        for (int letter = 0; letter < 5; letter++) {
            due("told(2" + letter + ")", x.told(20 + letter), 0);
            int was = 0;
            for (int v : new int[] {5, 0, 1, 2, 3, 4}) {
                due("put(" + letter + ", 1, " + v + ")", x.put(letter, 1, v), was);
                due("told(2" + letter + ")", x.told(20 + letter), v);
                due("told(1" + letter + ")", x.told(10 + letter), 101);
                was = v;
            }
        }
        for (int letter = 0; letter < 5; letter++) {
            int l = letter;
            refused("put(" + l + ", 1, 6)", Edges::small, y -> y.put(l, 1, 6), OUTSIDE);
            refused("put(" + l + ", 1, -1)", Edges::small, y -> y.put(l, 1, -1), OUTSIDE);
        }
        refusedAll("put(0, 1, v)", WILD, (y, v) -> y.put(0, 1, v), OUTSIDE);
    }

    private static void put() {
        for (int letter = 0; letter < 5; letter++) {
            LostDigits x = fresh();
            due("put(" + letter + ", 0, -99)", x.put(letter, 0, -99), 101);
            due("put(" + letter + ", 0, 99)", x.put(letter, 0, 99), 1);
            due("put(" + letter + ", 0, 0)", x.put(letter, 0, 0), 199);
            due("put(" + letter + ", 0, 5)", x.put(letter, 0, 5), 100);
            due("told(2" + letter + ")", x.told(20 + letter), 0);
            for (int other = 0; other < 5; other++) {
                due("told(1" + other + ")", x.told(10 + other), other == letter ? 105 : 101);
            }
            int l = letter;
            refused("put(" + l + ", 0, 100)", Edges::small, y -> y.put(l, 0, 100), OUTSIDE);
            refused("put(" + l + ", 0, -100)", Edges::small, y -> y.put(l, 0, -100), OUTSIDE);
            refused("put(" + l + ", -1, 1)", Edges::small, y -> y.put(l, -1, 1), OUTSIDE);
            refused("put(" + l + ", 2, 1)", Edges::small, y -> y.put(l, 2, 1), OUTSIDE);
        }
        for (int what = 0; what <= 1; what++) {
            int w = what;
            refused("put(-1, " + w + ", 1)", Edges::small, y -> y.put(-1, w, 1), OUTSIDE);
            refused("put(5, " + w + ", 1)", Edges::small, y -> y.put(5, w, 1), OUTSIDE);
            refusedAll("put(v, " + w + ", 1)", WILD, (y, v) -> y.put(v, w, 1), OUTSIDE);
        }
        refusedAll("put(0, v, 1)", WILD, (y, v) -> y.put(0, v, 1), OUTSIDE);
        refusedAll("put(0, 0, v)", WILD, (y, v) -> y.put(0, 0, v), OUTSIDE);
    }
}
