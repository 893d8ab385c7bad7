/**
 * For each promise of the document: ordinary calls, the edges that it names, wrong calls. The answers that are due
 * were worked out by hand from the document; some cases (like losses in orders, in BETTER) were found by running the
 * class, and their answers then checked by hand.
 */
public final class PromiseTests {
    private static final long ONE = 1000000000L;
    private static final long LOST = LostDigits.LOST;
    private static final long GREAT = LostDigits.GREAT;
    private static final int[] WILD = {Integer.MIN_VALUE, -1000000, -7, 1000, Integer.MAX_VALUE};
    private static final int[] FAR_BELOW = {
        Integer.MIN_VALUE, Integer.MIN_VALUE + 1, -(1 << 30), -1000000, -14, -13, -8, -7, -6, -5, -4, -3, -2
    };
    private static final int[] FAR_BEYOND = {13, 14, 15, 16, 20, 32, 64, 1000, 1 << 30, Integer.MAX_VALUE};

    private static int wrong = 0;
    private static int checks = 0;
    private static int promise = 0;

    public static void main(String[] args) {
        promise1New();
        promise2Set();
        promise3Round();
        promise4Say();
        promise5Wipe();
        promise6Fault();
        promise7Text();
        promise8Sign();
        promise9Put();
        promise10Worked();
        promise11Exact();
        promise12Loss();
        promise13Worst();
        promise14Needs();
        promise15Term();
        promise16Clear();
        promise17About();
        promise18Sum();
        promise19Orders();
        promise20Order();
        promise21Bounds();
        promise22Truth();
        promise23Fits();
        promise24Change();
        promise25Better();
        promise26BetterSign();
        promise27Image();
        promise28Restore();
        promise29Told();
        refusalsChangeNothing();
        answersChangeNothing();
        System.out.println(checks + " checks of promises 1 to 29, " + wrong + " wrong");
        if (wrong != 0) {
            System.exit(1);
        }
    }

    private static void due(String what, long got, long want) {
        checks++;
        if (got != want) {
            wrong++;
            System.out.println("promise " + promise + ": " + what + " answered " + got + ", due is " + want);
        }
    }

    private static LostDigits fresh() {
        return new LostDigits();
    }

    private static void pad(LostDigits x, String signs) {
        x.wipe();
        for (int i = 0; i < signs.length(); i++) {
            x.say(signs.charAt(i));
        }
    }

    private static void text(LostDigits x, String signs) {
        pad(x, signs);
        due("text() of " + signs, x.text(), signs.length());
    }

    private static LostDigits with(String signs, int... numbers) {
        LostDigits x = fresh();
        text(x, signs);
        numbers(x, numbers);
        return x;
    }

    private static void numbers(LostDigits x, int... numbers) {
        for (int i = 0; i < numbers.length; i++) {
            x.put(i, 0, numbers[i]);
        }
    }

    private static void terms(LostDigits x, long... ones) {
        x.clear();
        for (int i = 0; i < ones.length; i++) {
            due("term(" + ones[i] + ")", x.term(ones[i] * ONE), i + 1);
        }
    }

    private static String shown(LostDigits x) {
        StringBuilder signs = new StringBuilder();
        for (int i = 0; i < x.told(1); i++) {
            signs.append((char) x.sign(i));
        }
        return signs.toString();
    }

    private static void dueText(LostDigits x, String want) {
        checks++;
        if (!shown(x).equals(want)) {
            wrong++;
            System.out.println("promise " + promise + ": the TEXT is " + shown(x) + ", due is " + want);
        }
    }

    /** All that can be told of an object without changing it. */
    private static String picture(LostDigits x) {
        StringBuilder all = new StringBuilder(shown(x));
        for (int i = 0; i < 25; i++) {
            all.append(' ').append(x.told(i));
        }
        for (int i = 0; i < 7; i++) {
            all.append(' ').append(x.about(i));
        }
        return all.append(' ').append(x.fault()).toString();
    }

    private static void promise1New() {
        promise = 1;
        LostDigits x = fresh();
        due("told(0)", x.told(0), 0);
        due("told(1)", x.told(1), 1);
        due("sign(0)", x.sign(0), 'a');
        due("told(2)", x.told(2), 3);
        due("told(3)", x.told(3), 0);
        due("told(4)", x.told(4), 0);
        for (int i = 0; i < 5; i++) {
            due("told(1" + i + ")", x.told(10 + i), 101);
            due("told(2" + i + ")", x.told(20 + i), 0);
        }
        due("fault()", x.fault(), 0);
        due("text()", x.text(), -5);
        due("about(0)", x.about(0), LOST - 1);
        due("sum(0)", x.sum(0), LOST - 6);
        due("restore(0)", x.restore(0), -3);
        due("restore(1)", x.restore(1), -3);
        due("worked(0, 0)", x.worked(0, 0), ONE);
        due("exact(0)", x.exact(0), 1);
        due("exact(1)", x.exact(1), 1);
        due("bounds(0)", x.bounds(0), ONE);
        due("truth(1)", x.truth(1), ONE);
    }

    private static void promise2Set() {
        promise = 2;
        LostDigits x = fresh();
        due("set(0, 1)", x.set(0, 1), 3);
        due("set(0, 4)", x.set(0, 4), 1);
        due("set(0, 4)", x.set(0, 4), 4);
        due("set(1, 3)", x.set(1, 3), 0);
        due("set(1, 0)", x.set(1, 0), 3);
        due("set(1, 2)", x.set(1, 2), 0);
        due("set(0, 0)", x.set(0, 0), -2);
        due("set(0, 5)", x.set(0, 5), -2);
        due("set(1, -1)", x.set(1, -1), -2);
        due("set(1, 4)", x.set(1, 4), -2);
        due("set(-1, 1)", x.set(-1, 1), -2);
        due("set(2, 1)", x.set(2, 1), -2);
        for (int v : WILD) {
            due("set(0, " + v + ")", x.set(0, v), -2);
            due("set(1, " + v + ")", x.set(1, v), -2);
            due("set(" + v + ", 1)", x.set(v, 1), -2);
        }
        due("told(2)", x.told(2), 4);
        due("told(3)", x.told(3), 2);
    }

    private static void round(LostDigits x, int upper, int lower, int power, long want) {
        due("round(" + upper + ", " + lower + ", " + power + ") of " + x.told(2) + " digits by way " + x.told(3),
            x.round(upper, lower, power), want);
    }

    private static void promise3Round() {
        promise = 3;
        LostDigits x = fresh();
        round(x, 2, 3, 0, 667000000L);
        round(x, -2, 3, 0, -667000000L);
        round(x, 1235, 1, 0, 1240 * ONE);
        round(x, 1245, 1, 0, 1240 * ONE);
        round(x, 12451, 10, 0, 1250 * ONE);
        round(x, -1235, 1, 0, -1240 * ONE);
        round(x, 9995, 10, 0, 1000 * ONE);
        round(x, 0, 1000000, 9, 0);
        round(x, 1000000, 1000000, 0, ONE);
        round(x, 1, 1000000, 9, 1000 * ONE);
        roundTiny(x);
        roundGreat(x);
        x.set(0, 4);
        x.set(1, 0);
        round(x, 12345, 1, -9, 12340L);
        round(x, 99995, 1, -9, 100000L);
        round(x, 99995, 100000, -6, 1000L);
        round(x, 99994, 100000, -6, 0L);
        round(x, 999950, 1, 1, GREAT);
        round(x, 999949, 1, 1, 9999000 * ONE);
        round(x, -1000000, 1, 0, -1000000 * ONE);
        round(x, 12345, 10000, -6, 1234L);
        x.set(0, 1);
        round(x, 25, 1, 0, 20 * ONE);
        round(x, 35, 1, 0, 40 * ONE);
        round(x, 95, 1, 0, 100 * ONE);
        round(x, 95, 100, -6, 1000L);
        round(x, 94, 100, -6, 0L);
        round(x, 950000, 1, 1, GREAT);
        round(x, 949999, 1, 1, 9000000 * ONE);
        round(x, 1000001, 1, 0, LOST - 2);
        round(x, -1000001, 1, 0, LOST - 2);
        round(x, 1, 0, 0, LOST - 2);
        round(x, 1, -1, 0, LOST - 2);
        round(x, 1, 1000001, 0, LOST - 2);
        round(x, 1, 1, 10, LOST - 2);
        round(x, 1, 1, -10, LOST - 2);
        for (int v : new int[] {Integer.MIN_VALUE, Integer.MAX_VALUE}) {
            round(x, v, 1, 0, LOST - 2);
            round(x, 1, v, 0, LOST - 2);
            round(x, 1, 1, v, LOST - 2);
        }
    }

    /** Rounded first, however near to 0; only then is it 0. */
    private static void roundTiny(LostDigits x) {
        long[] least = {0, 0, 0, 0};
        long[] leastBelow = {0, 0, 0, 0};
        long[] edge = {1000, 0, 1000, 0};
        long[] edgeBelow = {-1000, 0, 0, -1000};
        for (int way = 0; way < 4; way++) {
            x.set(1, way);
            round(x, 999, 1000, -6, least[way]);
            round(x, -999, 1000, -6, leastBelow[way]);
            round(x, 9995, 10000, -6, edge[way]);
            round(x, -9995, 10000, -6, edgeBelow[way]);
            round(x, 1, 1, -6, 1000);
            round(x, -1, 1, -6, -1000);
            round(x, 1, 1000000, -9, 0);
            round(x, -1, 1000000, -9, 0);
        }
        x.set(1, 0);
        round(x, 9994, 10000, -6, 0);
    }

    private static void roundGreat(LostDigits x) {
        long[] above = {GREAT, 9990000 * ONE, GREAT, 9990000 * ONE};
        long[] below = {GREAT, -9990000 * ONE, -9990000 * ONE, GREAT};
        for (int way = 0; way < 4; way++) {
            x.set(1, way);
            round(x, 99950, 1, 2, above[way]);
            round(x, -99950, 1, 2, below[way]);
            round(x, 999000, 1, 1, 9990000 * ONE);
            round(x, 1, 1, 7, GREAT);
            round(x, -1, 1, 7, GREAT);
            round(x, 1000000, 1, 9, GREAT);
        }
        x.set(1, 0);
        round(x, 99949, 1, 2, 9990000 * ONE);
    }

    private static void promise4Say() {
        promise = 4;
        LostDigits x = fresh();
        due("say(33)", x.say(33), 1);
        due("say(126)", x.say(126), 2);
        due("say(32)", x.say(32), -2);
        due("say(127)", x.say(127), -2);
        for (int v : WILD) {
            due("say(" + v + ")", x.say(v), -2);
        }
        for (int i = 3; i <= 20; i++) {
            due("say(97)", x.say(97), i);
        }
        due("say(97)", x.say(97), -4);
        due("say(32)", x.say(32), -2);
        due("told(0)", x.told(0), 20);
    }

    private static void promise5Wipe() {
        promise = 5;
        LostDigits x = fresh();
        due("wipe()", x.wipe(), 0);
        pad(x, "+ab");
        due("wipe()", x.wipe(), 3);
        due("told(0)", x.told(0), 0);
        due("wipe()", x.wipe(), 0);
        dueText(x, "a");
    }

    private static void fault(String signs, int want) {
        LostDigits x = fresh();
        pad(x, signs);
        due("fault() of " + signs, x.fault(), want);
        due("told(0)", x.told(0), signs.length());
    }

    private static void promise6Fault() {
        promise = 6;
        fault("", 0);
        fault("a", -6);
        fault("e", -6);
        fault("0", -6);
        fault("9", -6);
        fault("f", 0);
        fault("`", 0);
        fault("A", 0);
        fault(":", 0);
        fault(".", 0);
        fault(",", 0);
        fault("(", 0);
        fault("ab", 1);
        fault("+", 1);
        fault("+a", 2);
        fault("+ab", -6);
        fault("+ab+", 3);
        fault("*-ab", 4);
        fault("*-ab/c1", -6);
        fault("+a!b", 2);
        fault("/+*-abcd!", 8);
        fault("++++++abcdeab", -6);
        fault("++++++abcdeabc", 13);
        fault("++++++abcdea", 12);
        fault("+++++++abcdea", 13);
        fault("+++++++abcdeab", 13);
        fault("++++++++++++++++++++", 13);
        fault("+++++++++++++", 13);
        fault("+++++++++++!+", 11);
    }

    private static void promise7Text() {
        promise = 7;
        LostDigits x = fresh();
        due("text()", x.text(), -5);
        pad(x, "*ab");
        due("text()", x.text(), 3);
        dueText(x, "*ab");
        due("told(0)", x.told(0), 0);
        due("text()", x.text(), -5);
        dueText(x, "*ab");
        pad(x, "*abc");
        due("text()", x.text(), -5);
        due("told(0)", x.told(0), 4);
        dueText(x, "*ab");
        pad(x, "++++++abcdeab");
        due("text()", x.text(), 13);
        dueText(x, "++++++abcdeab");
        pad(x, "++++++abcdeabc");
        due("text()", x.text(), -5);
        pad(x, "7");
        due("text()", x.text(), 1);
        dueText(x, "7");
    }

    private static void promise8Sign() {
        promise = 8;
        LostDigits x = with("/+ab9");
        due("sign(0)", x.sign(0), 47);
        due("sign(1)", x.sign(1), 43);
        due("sign(4)", x.sign(4), 57);
        due("sign(5)", x.sign(5), -1);
        due("sign(12)", x.sign(12), -1);
        due("sign(-1)", x.sign(-1), -1);
        for (int v : WILD) {
            due("sign(" + v + ")", x.sign(v), -1);
        }
        text(x, "b");
        due("sign(1)", x.sign(1), -1);
    }

    private static void promise9Put() {
        promise = 9;
        LostDigits x = fresh();
        due("put(0, 0, -99)", x.put(0, 0, -99), 101);
        due("put(0, 0, 99)", x.put(0, 0, 99), 1);
        due("put(0, 0, 0)", x.put(0, 0, 0), 199);
        due("put(4, 0, 7)", x.put(4, 0, 7), 101);
        due("put(4, 1, 5)", x.put(4, 1, 5), 0);
        due("put(4, 1, 0)", x.put(4, 1, 0), 5);
        due("put(4, 1, 2)", x.put(4, 1, 2), 0);
        due("told(14)", x.told(14), 107);
        due("told(24)", x.told(24), 2);
        due("told(10)", x.told(10), 100);
        due("put(5, 0, 1)", x.put(5, 0, 1), -2);
        due("put(-1, 0, 1)", x.put(-1, 0, 1), -2);
        due("put(0, 2, 1)", x.put(0, 2, 1), -2);
        due("put(0, -1, 1)", x.put(0, -1, 1), -2);
        due("put(0, 0, 100)", x.put(0, 0, 100), -2);
        due("put(0, 0, -100)", x.put(0, 0, -100), -2);
        due("put(0, 1, 6)", x.put(0, 1, 6), -2);
        due("put(0, 1, -1)", x.put(0, 1, -1), -2);
        for (int v : WILD) {
            due("put(" + v + ", 0, 1)", x.put(v, 0, 1), -2);
            due("put(0, " + v + ", 1)", x.put(0, v, 1), -2);
            if (v != -7) {
                due("put(0, 0, " + v + ")", x.put(0, 0, v), -2);
            }
        }
    }

    private static void worked(LostDigits x, int step, long came, long exact, long slip) {
        due("worked(" + step + ", 0)", x.worked(step, 0), came);
        due("worked(" + step + ", 1)", x.worked(step, 1), exact);
        due("worked(" + step + ", 2)", x.worked(step, 2), slip);
    }

    private static void promise10Worked() {
        promise = 10;
        LostDigits x = with("/ab", -2, 3);
        worked(x, 0, -667000000L, -666666666L, -333334L);
        worked(x, 1, -2 * ONE, -2 * ONE, 0);
        x.set(1, 2);
        worked(x, 0, -666000000L, -666666666L, 666666L);
        x.set(0, 1);
        numbers(x, 37, 8);
        worked(x, 1, 40 * ONE, 37 * ONE, 3 * ONE);
        worked(x, 0, 5 * ONE, 4625000000L, 0);
        x = with("*+aa*aa", 99);
        worked(x, 1, 198 * ONE, 198 * ONE, 0);
        worked(x, 4, 9800 * ONE, 9801 * ONE, -ONE);
        worked(x, 0, 1940000 * ONE, 1940598 * ONE, -400 * ONE);
        x = with("-a/1-bb", 5, 7);
        worked(x, 0, GREAT, GREAT, GREAT);
        worked(x, 1, 5 * ONE, 5 * ONE, 0);
        worked(x, 2, GREAT, GREAT, GREAT);
        worked(x, 4, 0, 0, 0);
        workedFarOut();
        workedRefused();
    }

    private static void workedFarOut() {
        LostDigits x = with("-***aaab1", 50, 80);
        worked(x, 1, GREAT, GREAT, GREAT);
        worked(x, 0, GREAT, 9999999 * ONE, GREAT);
        worked(x, 2, 125000 * ONE, 125000 * ONE, 0);
        numbers(x, -50, 80);
        worked(x, 1, GREAT, GREAT, GREAT);
        worked(x, 2, -125000 * ONE, -125000 * ONE, 0);
        // 9801 times 9801 is far above 10000000, but one by each of them is not
        x = with("//1*aa*aa", 99);
        worked(x, 1, 102000L, 102030L, -40L);
        worked(x, 0, 0, 10, -10);
        x = with("/*aa*aa", 99);
        worked(x, 0, ONE, ONE, 0);
        // a quotient by what was rounded to 0
        x = with("/1//1*aa*aa", 99);
        worked(x, 2, 0, 10, -10);
        worked(x, 0, GREAT, GREAT, GREAT);
    }

    private static void workedRefused() {
        LostDigits x = with("+ab");
        due("worked(3, 0)", x.worked(3, 0), LOST - 1);
        due("worked(-1, 0)", x.worked(-1, 0), LOST - 1);
        due("worked(13, 9)", x.worked(13, 9), LOST - 1);
        due("worked(0, 3)", x.worked(0, 3), LOST - 2);
        due("worked(0, -1)", x.worked(0, -1), LOST - 2);
        for (int v : WILD) {
            due("worked(" + v + ", 0)", x.worked(v, 0), LOST - 1);
            due("worked(0, " + v + ")", x.worked(0, v), LOST - 2);
            due("worked(" + v + ", " + v + ")", x.worked(v, v), LOST - 1);
        }
    }

    private static void exact(LostDigits x, long upper, long lower) {
        due("exact(0)", x.exact(0), upper);
        due("exact(1)", x.exact(1), lower);
    }

    private static void promise11Exact() {
        promise = 11;
        exact(with("/ab", 6, -4), -3, 2);
        exact(with("/ab", 0, -4), 0, 1);
        exact(with("/ab", -6, -4), 3, 2);
        exact(with("+/ab/ba", 2, 3), 13, 6);
        exact(with("-/ab/bb", 4, 8), -1, 2);
        exact(with("/ab", 6, 0), GREAT, GREAT);
        exact(with("*0/a0", 6), GREAT, GREAT);
        exact(with("/a/0b", 6), GREAT, GREAT);
        exact(with("/1/a0", 6), GREAT, GREAT);
        exact(with("//a01", 6), GREAT, GREAT);
        exact(with("/a/b3", 2, -5), -6, 5);
        exact(with("//b3a", -2, 5), -5, 6);
        exact(with("******aaaaaaa", 99), 93206534790699L, 1);
        exact(with("//////aaaaaaa", 99), 1, 9509900499L);
        exact(with("++/1a/1b/1+cd", 97, 89, 40, 43), 24071, 716539);
        LostDigits x = with("/a0");
        due("exact(2)", x.exact(2), LOST - 2);
        due("exact(-1)", x.exact(-1), LOST - 2);
        for (int v : WILD) {
            due("exact(" + v + ")", x.exact(v), LOST - 2);
        }
    }

    private static void promise12Loss() {
        promise = 12;
        due("loss()", with("*aa", 99).loss(), -ONE);
        due("loss()", with("/ab", 2, 3).loss(), 333334L);
        due("loss()", with("/ab", -2, 3).loss(), -333334L);
        due("loss()", with("+ab", 2, 3).loss(), 0);
        LostDigits y = with("/ab", 2, 3);
        y.set(0, 1);
        due("loss()", y.loss(), 33333334L);
        y.set(1, 1);
        due("loss()", y.loss(), -66666666L);
        due("loss()", with("/a0").loss(), GREAT);
        due("loss()", with("-***aaab1", 50, 80).loss(), GREAT);
        LostDigits x = with("***aaab", 51, 80);
        x.set(0, 1);
        x.set(1, 1);
        due("worked(0, 0)", x.worked(0, 0), 8000000 * ONE);
        due("loss()", x.loss(), GREAT);
        // 40 and 40 less 70: worked to 10, exactly 0
        x = with("/1-+aa-bc", 36, 74, 2);
        x.set(0, 1);
        due("worked(2, 0)", x.worked(2, 0), 10 * ONE);
        due("worked(0, 0)", x.worked(0, 0), 100000000L);
        due("loss()", x.loss(), GREAT);
    }

    private static void promise13Worst() {
        promise = 13;
        due("worst()", fresh().worst(), -6);
        LostDigits x = with("*+aa*aa", 99);
        due("worst()", x.worst(), 0);
        x.set(0, 1);
        due("worst()", x.worst(), 2);
        // both letters slip by as much, one up and one down
        x = with("+ab", 36, 44);
        x.set(0, 1);
        due("worked(1, 2)", x.worked(1, 2), 4 * ONE);
        due("worked(2, 2)", x.worked(2, 2), -4 * ONE);
        due("worst()", x.worst(), 1);
        numbers(x, 44, 35);
        due("worst()", x.worst(), 2);
        numbers(x, 40, 50);
        due("worst()", x.worst(), -6);
        // a slip of one billionth: 1 by 729000 is 0.000001371742
        x = with("/1*a*aa", 90);
        x.set(0, 4);
        due("worked(0, 2)", x.worked(0, 2), 1);
        due("worst()", x.worst(), 0);
        // EXACT is GREAT, but what the TEXT is WORKED to is not, and slips are of that
        x = with("/1-+aa-bc", 36, 74, 2);
        x.set(0, 1);
        due("worst()", x.worst(), 4);
        due("worst()", with("/a0").worst(), -3);
        due("worst()", with("+a*/a0b").worst(), -3);
        due("worst()", with("**aa*aa", 99).worst(), -3);
    }

    private static void promise14Needs() {
        promise = 14;
        LostDigits x = with("*aa", 99);
        // 100 times 100; 9800; 9800; 9801
        due("needs(0)", x.needs(0), 4);
        due("needs(999999999)", x.needs(ONE - 1), 4);
        due("needs(1000000000)", x.needs(ONE), 2);
        due("needs(198999999999)", x.needs(199 * ONE - 1), 2);
        due("needs(199000000000)", x.needs(199 * ONE), 1);
        due("needs(-1)", x.needs(-1), -2);
        due("needs(least)", x.needs(Long.MIN_VALUE), -2);
        due("needs(greatest)", x.needs(Long.MAX_VALUE), 1);
        due("told(2)", x.told(2), 3);
        x.set(1, 1);
        // towards 0: 90 times 90 is 8100, so 8000; 9800
        due("needs(1801000000000)", x.needs(1801 * ONE), 1);
        due("needs(1800999999999)", x.needs(1801 * ONE - 1), 2);
        x = with("/ab", 1, 3);
        due("needs(0)", x.needs(0), -6);
        due("needs(33333)", x.needs(33333), 4);
        due("needs(33332)", x.needs(33332), -6);
        x = with("/a0");
        due("needs(greatest)", x.needs(Long.MAX_VALUE), -6);
        due("needs(-1)", x.needs(-1), -2);
    }

    private static void promise15Term() {
        promise = 15;
        LostDigits x = fresh();
        due("term(1234567890)", x.term(1234567890L), 1);
        due("about(0)", x.about(0), 1230000000L);
        due("term(999)", x.term(999), 2);
        due("about(1)", x.about(1), 0);
        due("term(-1000)", x.term(-1000), 3);
        due("about(2)", x.about(2), -1000);
        due("term(0)", x.term(0), 4);
        due("term(9994999999999999)", x.term(9994999999999999L), 5);
        due("about(4)", x.about(4), 9990000 * ONE);
        due("term(9995000000000000)", x.term(9995000 * ONE), -2);
        due("term(-9995000000000000)", x.term(-9995000 * ONE), -2);
        due("term(10000000000000000)", x.term(10000000 * ONE), -2);
        due("term(-10000000000000000)", x.term(-10000000 * ONE), -2);
        due("term(greatest)", x.term(Long.MAX_VALUE), -2);
        due("term(least)", x.term(Long.MIN_VALUE), -2);
        x.set(1, 3);
        due("term(9999999999999999)", x.term(9999999999999999L), 6);
        due("about(5)", x.about(5), 9990000 * ONE);
        due("term(-9999999999999999)", x.term(-9999999999999999L), -2);
        due("term(-1001)", x.term(-1001), 7);
        due("about(6)", x.about(6), -1010);
        due("term(1)", x.term(1), -4);
        due("term(10000000000000000)", x.term(10000000 * ONE), -2);
        due("told(4)", x.told(4), 7);
        // a TERM stays as it was told
        x.set(0, 1);
        due("about(0)", x.about(0), 1230000000L);
    }

    private static void promise16Clear() {
        promise = 16;
        LostDigits x = fresh();
        due("clear()", x.clear(), 0);
        terms(x, 1, 2, 3);
        due("orders(0)", x.orders(0), 0);
        due("clear()", x.clear(), 3);
        due("told(4)", x.told(4), 0);
        due("about(0)", x.about(0), LOST - 1);
        due("orders(0)", x.orders(0), LOST - 6);
        terms(x, 7);
        due("about(0)", x.about(0), 7 * ONE);
    }

    private static void promise17About() {
        promise = 17;
        LostDigits x = fresh();
        terms(x, 5, -6);
        due("about(0)", x.about(0), 5 * ONE);
        due("about(1)", x.about(1), -6 * ONE);
        due("about(2)", x.about(2), LOST - 1);
        due("about(-1)", x.about(-1), LOST - 1);
        for (int v : WILD) {
            due("about(" + v + ")", x.about(v), LOST - 1);
        }
    }

    private static void sums(LostDigits x, long... ones) {
        for (int how = 0; how < ones.length; how++) {
            due("sum(" + how + ")", x.sum(how), ones[how] == GREAT ? GREAT : ones[how] * ONE);
        }
    }

    private static void promise18Sum() {
        promise = 18;
        LostDigits x = fresh();
        terms(x, 1000, 4, 4, 4);
        sums(x, 1000, 1010, 1010, 1010, 1012);
        terms(x, 1000, 4, 4, 4, 4, 4, 4);
        sums(x, 1000, 1020, 1020, 1020, 1024);
        terms(x, 100, 5, 6);
        sums(x, 111, 111, 111, 111, 111);
        // the greater half first: (4 and 4) and (1000 and 4) would come to another end than 4, 4, 1000 and 4
        terms(x, 1000, 4, 4);
        sums(x, 1000, 1010, 1000, 1010, 1008);
        x.set(0, 1);
        terms(x, 10, -10, 1);
        sums(x, 1, 1, 1, 0, 1);
        terms(x, -10, 10, 1);
        sums(x, 1, 1, 1, 1, 1);
        sumsOfLongerTerms();
        sumsGreat();
        x = fresh();
        for (int how = 0; how < 5; how++) {
            due("sum(" + how + ") of none", x.sum(how), LOST - 6);
        }
        due("sum(5)", x.sum(5), LOST - 2);
        due("sum(-1)", x.sum(-1), LOST - 2);
        x.term(ONE);
        for (int v : WILD) {
            due("sum(" + v + ")", x.sum(v), LOST - 2);
        }
    }

    /** TERMS of more digits than are worked with now: a first or only one is taken as it is. */
    private static void sumsOfLongerTerms() {
        LostDigits x = fresh();
        x.set(0, 4);
        terms(x, 1234);
        x.set(0, 1);
        sums(x, 1234, 1000, 1234, 1234, 1234);
        x.set(0, 4);
        terms(x, 1234, 5678);
        x.set(0, 2);
        // beside: 1200; 5700 less 0, 6900
        sums(x, 6900, 6900, 6900, 6900, 6912);
    }

    private static void sumsGreat() {
        LostDigits x = fresh();
        terms(x, 9000000, 9000000, -9000000, -9000000);
        sums(x, GREAT, GREAT, GREAT, GREAT, 0);
        terms(x, 9000000, -9000000, 9000000, -9000000);
        sums(x, 0, 0, 0, 0, 0);
        terms(x, 9000000, -9000000, 1000, 9000000, -9000000);
        sums(x, 0, 0, 1000, 0, 1000);
        terms(x, 9000000, 1000000);
        sums(x, GREAT, GREAT, GREAT, GREAT, 10000000);
        terms(x, -9000000, -1000000);
        sums(x, GREAT, GREAT, GREAT, GREAT, -10000000);
        x.set(1, 1);
        terms(x, 9990000, 9990, 9);
        sums(x, 9990000, 9990000, 9990000, 9990000, 9999999);
    }

    private static void orders(LostDigits x, int most, long ones, int count, int... first) {
        due("orders(" + most + ")", x.orders(most), ones * ONE);
        due("order(" + most + ", -1)", x.order(most, -1), count);
        for (int i = 0; i < first.length; i++) {
            due("order(" + most + ", " + i + ")", x.order(most, i), first[i]);
        }
    }

    private static void promise19Orders() {
        promise = 19;
        LostDigits x = fresh();
        terms(x, 7);
        orders(x, 0, 0, 1, 0);
        orders(x, 1, 0, 1, 0);
        terms(x, 1000, 4, 4);
        // 4 and 4 and 1000 is 1010, all else 1000
        orders(x, 0, 2, 2, 1, 2, 0);
        orders(x, 1, -8, 4, 0, 1, 2);
        x.set(0, 1);
        // by these orders 5 5 -5 and so on are lost: of like ones that above 0
        terms(x, 4, -9, -20);
        orders(x, 0, 5, 2, 0, 1, 2);
        orders(x, 1, 5, 2, 0, 1, 2);
        terms(x, 70, 70, 10);
        orders(x, 0, 50, 4, 0, 2, 1);
        orders(x, 1, 50, 4, 0, 2, 1);
        x.set(0, 3);
        terms(x, 9000000, 9000000, -9000000);
        orders(x, 0, 0, 4, 0, 2, 1);
        terms(x, 9000000, 9000000);
        due("orders(0)", x.orders(0), LOST - 6);
        due("orders(1)", x.orders(1), LOST - 6);
        due("orders(2)", x.orders(2), LOST - 2);
        due("orders(-1)", x.orders(-1), LOST - 2);
        for (int v : WILD) {
            due("orders(" + v + ")", x.orders(v), LOST - 2);
        }
        x.clear();
        due("orders(1)", x.orders(1), LOST - 6);
        due("orders(2)", x.orders(2), LOST - 2);
        ordersFollowChanges();
    }

    private static void ordersFollowChanges() {
        LostDigits x = fresh();
        terms(x, 1000, 4, 4);
        due("orders(1)", x.orders(1), -8 * ONE);
        x.set(0, 4);
        due("orders(1)", x.orders(1), 0);
        x.set(0, 3);
        due("orders(1)", x.orders(1), -8 * ONE);
        x.set(1, 2);
        due("orders(1)", x.orders(1), 12 * ONE);
        x.image(0);
        x.term(ONE);
        due("orders(1)", x.orders(1), 21 * ONE);
        x.restore(0);
        due("orders(1)", x.orders(1), 12 * ONE);
    }

    private static void promise20Order() {
        promise = 20;
        LostDigits x = fresh();
        due("order(0, -1) of none", x.order(0, -1), -6);
        due("order(1, -1) of none", x.order(1, -1), -6);
        terms(x, 1, 2, 3, 4, 5, 6, 7);
        orders(x, 0, 0, 5040, 0, 1, 2, 3, 4, 5, 6);
        orders(x, 1, 0, 5040, 0, 1, 2, 3, 4, 5, 6);
        due("order(2, 0)", x.order(2, 0), -2);
        due("order(-1, -1)", x.order(-1, -1), -2);
        for (int v : WILD) {
            due("order(" + v + ", 0)", x.order(v, 0), -2);
        }
        terms(x, 9000000, 9000000);
        due("order(0, -1)", x.order(0, -1), -6);
        due("order(1, 0)", x.order(1, 0), -6);
        orderWithoutThatTerm();
    }

    /** No i is too great or too low: where the first order has no i-th TERM, or there is no order, there is none. */
    private static void orderWithoutThatTerm() {
        // an object is promised for 512 calls alone, so each number of TERMS has its own
        for (int count = 0; count <= 7; count++) {
            LostDigits some = fresh();
            int ways = 1;
            for (int i = 1; i <= count; i++) {
                some.term(i * ONE);
                ways *= i;
            }
            noTermFrom(some, count);
            noSuchEnd(some);
            due("order(0, -1)", some.order(0, -1), count == 0 ? -6 : ways);
            due("order(1, -1)", some.order(1, -1), count == 0 ? -6 : ways);
        }
        // orders that are all GREAT have no first one, so not even a TERM that there is
        LostDigits x = fresh();
        terms(x, 9000000, 9000000);
        noTermFrom(x, 0);
        noSuchEnd(x);
        x.clear();
        noTermFrom(x, 0);
        noSuchEnd(x);
    }

    private static void noTermFrom(LostDigits x, int first) {
        for (int most = 0; most <= 1; most++) {
            for (int i = first; i <= 12; i++) {
                due("order(" + most + ", " + i + ")", x.order(most, i), -6);
            }
            for (int i : FAR_BEYOND) {
                due("order(" + most + ", " + i + ")", x.order(most, i), -6);
            }
            for (int i : FAR_BELOW) {
                due("order(" + most + ", " + i + ")", x.order(most, i), -6);
            }
        }
    }

    /** An end that is neither the nearest nor the farthest is not as told, whatever i is. */
    private static void noSuchEnd(LostDigits x) {
        for (int most = -1; most <= 2; most += 3) {
            for (int i = -1; i <= 7; i++) {
                due("order(" + most + ", " + i + ")", x.order(most, i), -2);
            }
            for (int i : FAR_BEYOND) {
                due("order(" + most + ", " + i + ")", x.order(most, i), -2);
            }
            for (int i : FAR_BELOW) {
                due("order(" + most + ", " + i + ")", x.order(most, i), -2);
            }
        }
    }

    private static void ends(LostDigits x, long least, long greatest) {
        due("bounds(0)", x.bounds(0), least);
        due("bounds(1)", x.bounds(1), greatest);
    }

    private static LostDigits spanned(String signs, int a, int aSpan, int b, int bSpan) {
        LostDigits x = with(signs, a, b);
        x.put(0, 1, aSpan);
        x.put(1, 1, bSpan);
        return x;
    }

    private static void promise21Bounds() {
        promise = 21;
        ends(spanned("+ab", 3, 2, -7, 4), -4 * ONE, 2 * ONE);
        ends(spanned("-ab", 3, 2, -7, 4), 6 * ONE, 12 * ONE);
        ends(spanned("*ab", -3, 5, -7, 4), -14 * ONE, 21 * ONE);
        ends(spanned("/ab", -3, 5, 3, 1), -ONE, 667000000L);
        ends(spanned("/ab", -3, 5, -4, 1), -667000000L, ONE);
        ends(spanned("-aa", 3, 2, 0, 0), -2 * ONE, 2 * ONE);
        ends(spanned("/1a", 3, 0, 0, 0), 333000000L, 334000000L);
        ends(spanned("/1a", -3, 0, 0, 0), -334000000L, -333000000L);
        ends(spanned("*aa", 99, 5, 0, 0), 9800 * ONE, 10900 * ONE);
        LostDigits x = spanned("a", 37, 5, 0, 0);
        x.set(0, 1);
        ends(x, 30 * ONE, 50 * ONE);
        // the way does not matter
        x.set(1, 1);
        ends(x, 30 * ONE, 50 * ONE);
        boundsTiny();
        boundsGreat();
        x = fresh();
        due("bounds(2)", x.bounds(2), LOST - 2);
        due("bounds(-1)", x.bounds(-1), LOST - 2);
        for (int v : WILD) {
            due("bounds(" + v + ")", x.bounds(v), LOST - 2);
        }
    }

    private static void boundsTiny() {
        ends(spanned("//1*aa*aa", 99, 0, 0, 0), 0, 1000);
        ends(spanned("//-01*aa*aa", 99, 0, 0, 0), -1000, 0);
        ends(spanned("*0//1*aa*aa", 99, 0, 0, 0), 0, 0);
        // what was rounded down to 0 can not be divided by
        ends(spanned("/1//1*aa*aa", 99, 0, 0, 0), GREAT, GREAT);
    }

    private static void boundsGreat() {
        ends(spanned("/ab", 1, 0, -2, 2), GREAT, GREAT);
        ends(spanned("/ab", 1, 0, 0, 2), GREAT, GREAT);
        ends(spanned("/ab", 1, 0, -2, 1), -ONE, -500000000L);
        ends(spanned("/ab", 1, 0, -2, 4), GREAT, GREAT);
        ends(spanned("+a*0/bb", 1, 0, 0, 0), GREAT, GREAT);
        // only one end is too great
        ends(spanned("**aa*aa", 54, 5, 0, 0), GREAT, GREAT);
        ends(spanned("-0**aa*aa", 54, 5, 0, 0), GREAT, GREAT);
        ends(spanned("**aa*aa", 54, 1, 0, 0), 8460000 * ONE, 9190000 * ONE);
        // 56 to the 4th is 9834496, and 9859600 by 3140 and 3140
        ends(spanned("**aa*aa", 56, 0, 0, 0), 9790000 * ONE, 9860000 * ONE);
        // 119 times 84000 is 9996000: down it is 9990000, up it is too great
        for (int sign = -1; sign <= 1; sign += 2) {
            LostDigits y = with("*+ab*c*de", 99, 20, sign * 84, 50, 20);
            ends(y, GREAT, GREAT);
            y.set(0, 4);
            ends(y, sign * 9996000 * ONE, sign * 9996000 * ONE);
        }
        LostDigits x = spanned("**aa*aa", 56, 0, 0, 0);
        x.set(0, 1);
        ends(x, GREAT, GREAT);
    }

    private static void truths(LostDigits x, long least, long greatest) {
        due("truth(0)", x.truth(0), least);
        due("truth(1)", x.truth(1), greatest);
    }

    private static void promise22Truth() {
        promise = 22;
        truths(spanned("-aa", 3, 5, 0, 0), 0, 0);
        truths(spanned("*aa", -3, 5, 0, 0), 0, 9 * ONE);
        truths(spanned("*ab", -3, 5, -7, 4), -14 * ONE, 21 * ONE);
        truths(spanned("/a3", 1, 0, 0, 0), 333333333L, 333333334L);
        truths(spanned("/a3", -1, 0, 0, 0), -333333334L, -333333333L);
        truths(spanned("/a3", -1, 2, 0, 0), -333333334L, 333333334L);
        truths(spanned("/a-b1", 4, 1, 2, 3), ONE, 5 * ONE);
        // the span of a letter that is not in the TEXT does not matter
        LostDigits x = spanned("/1a", 2, 0, -2, 5);
        truths(x, 500000000L, 500000000L);
        x.set(0, 1);
        truths(spanned("a", 99, 5, 0, 0), 99 * ONE, 104 * ONE);
        truths(spanned("/1a", -2, 2, 0, 0), GREAT, GREAT);
        truths(spanned("/1a", -2, 1, 0, 0), -ONE, -500000000L);
        truths(spanned("/1-aa", 2, 1, 0, 0), GREAT, GREAT);
        truths(spanned("**aa*aa", 55, 1, 0, 0), 9150625 * ONE, 9834496 * ONE);
        truths(spanned("**aa*aa", 55, 2, 0, 0), GREAT, GREAT);
        truths(spanned("-0**aa*aa", 55, 2, 0, 0), GREAT, GREAT);
        truthOfAllLetters();
        due("truth(2)", x.truth(2), LOST - 2);
        due("truth(-1)", x.truth(-1), LOST - 2);
        for (int v : WILD) {
            due("truth(" + v + ")", x.truth(v), LOST - 2);
        }
    }

    private static void truthOfAllLetters() {
        LostDigits x = with("++*ab-cd/1e", 1, 2, 3, 4, 5);
        for (int i = 0; i < 5; i++) {
            x.put(i, 1, 5);
        }
        // 1 * 2 + 3 - 9 + 1 / 10, 6 * 7 + 8 - 4 + 1 / 5
        truths(x, -3900000000L, 46200000000L);
        x.put(4, 0, -5);
        truths(x, GREAT, GREAT);
        x.put(4, 1, 4);
        truths(x, -5 * ONE, 45800000000L);
        x.put(0, 0, 99);
        truths(x, 191 * ONE, 731800000000L);
    }

    private static void fits(String signs, int rule, int step, int want) {
        LostDigits x = with(signs);
        due("fits(" + rule + ", " + step + ") of " + signs, x.fits(rule, step), want);
        dueText(x, signs);
    }

    private static void promise23Fits() {
        promise = 23;
        String[] fitting = {"*ab", "**abc", "*a-bc", "-*ab*ac", "-*aa*bb", "--abc", "/a/bc"};
        for (int i = 0; i < fitting.length; i++) {
            fits(fitting[i], i, 0, 1);
        }
        fits("+ab", 0, 0, 1);
        fits("-ab", 0, 0, 0);
        fits("/ab", 0, 0, 0);
        fits("a", 0, 0, 0);
        fits("++abc", 1, 0, 1);
        fits("+*abc", 1, 0, 0);
        fits("*+abc", 1, 0, 0);
        fits("+a+bc", 1, 0, 0);
        fits("--abc", 1, 0, 0);
        fits("*a+bc", 2, 0, 1);
        fits("*+abc", 2, 0, 0);
        fits("*a*bc", 2, 0, 0);
        fits("/a+bc", 2, 0, 0);
        fits("+*ab*ac", 3, 0, 1);
        fits("+*ab*ca", 3, 0, 0);
        fits("**ab*ac", 3, 0, 0);
        fits("+*+abc*+abd", 3, 0, 1);
        fits("+*+abc*+bad", 3, 0, 0);
        fits("+*1b*2c", 3, 0, 0);
        fits("-*ab*bb", 4, 0, 0);
        fits("-*aa*ba", 4, 0, 0);
        fits("+*aa*bb", 4, 0, 0);
        fits("-*+ab+ab*cc", 4, 0, 1);
        fits("-*+ab+ba*cc", 4, 0, 0);
        fits("-*aa*aa", 4, 0, 1);
        fits("-a-bc", 5, 0, 0);
        fits("-+abc", 5, 0, 0);
        fits("//abc", 6, 0, 0);
        fits("*a/bc", 6, 0, 0);
        fits("+a/b/cd", 6, 2, 1);
        // one sign and x come to those that there are: 13 are fine, 15 too many
        fits("*a+b++++cdeab", 2, 0, 0);
        fits("*a+b+++cdea", 2, 0, 1);
        fits("*+ab+c++dea", 2, 0, 0);
        fits("*+ab+c+de", 2, 0, 1);
        LostDigits x = with("+ab");
        due("fits(0, 3)", x.fits(0, 3), -1);
        due("fits(0, -1)", x.fits(0, -1), -1);
        due("fits(9, 13)", x.fits(9, 13), -1);
        due("fits(7, 0)", x.fits(7, 0), -2);
        due("fits(-1, 2)", x.fits(-1, 2), -2);
        due("fits(0, 2)", x.fits(0, 2), 0);
        for (int v : WILD) {
            due("fits(0, " + v + ")", x.fits(0, v), -1);
            due("fits(" + v + ", 0)", x.fits(v, 0), -2);
        }
    }

    private static void change(String signs, int rule, int step, String want) {
        LostDigits x = with(signs);
        due("change(" + rule + ", " + step + ") of " + signs, x.change(rule, step), want.length());
        dueText(x, want);
    }

    private static void promise24Change() {
        promise = 24;
        change("+ab", 0, 0, "+ba");
        change("*+ab-cd", 0, 0, "*-cd+ab");
        change("++*abcd", 1, 0, "+*ab+cd");
        change("**abc", 1, 0, "*a*bc");
        change("*a+bc", 2, 0, "+*ab*ac");
        change("*/ab-cd", 2, 0, "-*/abc*/abd");
        change("+*ab*ac", 3, 0, "*a+bc");
        change("-*+abc*+abd", 3, 0, "*+ab-cd");
        change("-*aa*bb", 4, 0, "*-ab+ab");
        change("-*/ab/ab*cc", 4, 0, "*-/abc+/abc");
        change("-*cc*/ab/ab", 4, 0, "*-c/ab+c/ab");
        change("--*abcd", 5, 0, "-*ab+cd");
        change("/+ab/*cde", 6, 0, "/*+abe*cd");
        change("+1*-a2/b/cd", 6, 6, "+1*-a2/*bdc");
        change("-/*a+bcde", 2, 2, "-/+*ab*acde");
        change("*a+b+++cdea", 2, 0, "+*ab*a+++cdea");
        change("*+ab+c+de", 2, 0, "+*+abc*+ab+de");
        LostDigits x = with("*a+b++++cdeab");
        due("change(2, 0)", x.change(2, 0), -5);
        dueText(x, "*a+b++++cdeab");
        due("change(0, 13)", x.change(0, 13), -1);
        due("change(7, 13)", x.change(7, 13), -1);
        due("change(0, -1)", x.change(0, -1), -1);
        due("change(7, 0)", x.change(7, 0), -2);
        due("change(-1, 0)", x.change(-1, 0), -2);
        due("change(5, 0)", x.change(5, 0), -5);
        due("change(0, 12)", x.change(0, 12), -5);
        for (int v : WILD) {
            due("change(0, " + v + ")", x.change(0, v), -1);
            due("change(" + v + ", 0)", x.change(v, 0), -2);
        }
        dueText(x, "*a+b++++cdeab");
        changeIsWorked();
    }

    private static void changeIsWorked() {
        LostDigits x = with("-*aa*bb", 98, 97);
        due("loss()", x.loss(), -5 * ONE);
        due("better(0)", x.better(0), -5 * ONE);
        x.change(4, 0);
        due("loss()", x.loss(), 0);
        due("better(0)", x.better(0), 0);
        due("worked(4, 0)", x.worked(4, 0), 195 * ONE);
    }

    private static void best(LostDigits x, int rules, long lost, String signs) {
        due("better(" + rules + ")", x.better(rules), lost);
        due("betterSign(" + rules + ", -1)", x.betterSign(rules, -1), signs.length());
        for (int i = 0; i < signs.length(); i++) {
            due("betterSign(" + rules + ", " + i + ") of " + signs, x.betterSign(rules, i), signs.charAt(i));
        }
    }

    private static void promise25Better() {
        promise = 25;
        LostDigits x = with("+*ca*c+dd", 84, 1, 26, 81);
        best(x, 0, -6 * ONE, "+*ca*c+dd");
        // 26 times 246 is 6396, so 6400; but 2180 and 2110 and 2110 are 6400, too: the first STEP is taken
        best(x, 1, 4 * ONE, "*c+a+dd");
        best(x, 2, 4 * ONE, "*c+a+dd");
        best(x, 0, -6 * ONE, "+*ca*c+dd");
        dueText(x, "+*ca*c+dd");
        // like losses: the TEXT itself comes first
        x = with("+ab", 2, 3);
        best(x, 2, 0, "+ab");
        betterByTwo();
        // a GREAT text may come to one that is not
        x = with("/a/b0", 3, 7);
        best(x, 1, 0, "/*a0b");
        x = with("/a0");
        due("better(0)", x.better(0), LOST - 6);
        due("better(2)", x.better(2), LOST - 6);
        due("better(3)", x.better(3), LOST - 2);
        due("better(-1)", x.better(-1), LOST - 2);
        for (int v : WILD) {
            due("better(" + v + ")", x.better(v), LOST - 2);
        }
    }

    private static void betterByTwo() {
        // 9700 less 9600; only when *ca is turned can a be taken out: 99 times 1
        LostDigits x = with("-*ab*ca", 99, 98, 97);
        best(x, 0, ONE, "-*ab*ca");
        best(x, 1, ONE, "-*ab*ca");
        best(x, 2, 0, "*a-bc");
        // 20 times 3; only when it is turned can 3 be told out: 30 and 20, exactly 48
        x = with("*+bca", 3, 9, 7);
        x.set(0, 1);
        best(x, 1, 12 * ONE, "*+bca");
        best(x, 2, 2 * ONE, "+*ab*ac");
        // both products would have to be turned first, and that is one RULE too many
        x = with("-*ba*ca", 98, 99, 97);
        x.set(0, 2);
        best(x, 2, 4 * ONE, "-*ba*ca");
        // RULE 4 saves 5, but 195 and 9510 are a tie and go to 9700 as well
        x = with("+-*aa*bb*ab", 98, 97);
        best(x, 0, -ONE, "+-*aa*bb*ab");
        best(x, 1, -ONE, "+-*aa*bb*ab");
    }

    private static void promise26BetterSign() {
        promise = 26;
        LostDigits x = with("-*aa*bb", 98, 97);
        due("betterSign(1, 0)", x.betterSign(1, 0), '*');
        due("betterSign(0, 0)", x.betterSign(0, 0), '-');
        due("betterSign(2, 1)", x.betterSign(2, 1), '-');
        best(x, 1, 0, "*-ab+ab");
        due("betterSign(3, 0)", x.betterSign(3, 0), -2);
        due("betterSign(-1, 0)", x.betterSign(-1, 0), -2);
        for (int v : WILD) {
            due("betterSign(" + v + ", 0)", x.betterSign(v, 0), -2);
        }
        x.put(1, 0, 98);
        best(x, 1, 0, "-*aa*bb");
        x.set(0, 2);
        x.put(1, 0, 97);
        x.set(0, 3);
        best(x, 1, 0, "*-ab+ab");
        text(x, "a");
        best(x, 1, 0, "a");
        x = with("/a0");
        due("betterSign(0, -1)", x.betterSign(0, -1), -6);
        due("betterSign(2, 0)", x.betterSign(2, 0), -6);
        betterSignWithoutThatSign();
    }

    /** No i is too great or too low: where the text has no i-th sign, or all are GREAT, there is none. */
    private static void betterSignWithoutThatSign() {
        noSignFrom(fresh(), 1);
        noSignFrom(with("-*aa*bb", 98, 97), 7);
        noSignFrom(with("+a+b+c+d+e+ab", 2, 3, 4, 5, 6), 13);
        noSignFrom(with("/a0"), 0);
        noSuchRules(fresh());
        noSuchRules(with("-*aa*bb", 98, 97));
        noSuchRules(with("/a0"));
        // a rule may leave fewer signs: those of the TEXT that are gone are none as well
        LostDigits x = with("+*ca*c+dd", 84, 1, 26, 81);
        due("betterSign(0, 7)", x.betterSign(0, 7), 'd');
        due("betterSign(1, 7)", x.betterSign(1, 7), -6);
        due("betterSign(2, 8)", x.betterSign(2, 8), -6);
        // what is asked for below the text does not change how many signs there are
        for (int rules = 0; rules <= 2; rules++) {
            due("betterSign(" + rules + ", -2)", x.betterSign(rules, -2), -6);
            due("betterSign(" + rules + ", -1)", x.betterSign(rules, -1), rules == 0 ? 9 : 7);
        }
    }

    private static void noSignFrom(LostDigits x, int first) {
        for (int rules = 0; rules <= 2; rules++) {
            for (int i = first; i <= 12; i++) {
                due("betterSign(" + rules + ", " + i + ")", x.betterSign(rules, i), -6);
            }
            for (int i : FAR_BEYOND) {
                due("betterSign(" + rules + ", " + i + ")", x.betterSign(rules, i), -6);
            }
            for (int i : FAR_BELOW) {
                due("betterSign(" + rules + ", " + i + ")", x.betterSign(rules, i), -6);
            }
        }
    }

    /** Another number of RULES is not as told, whatever i is. */
    private static void noSuchRules(LostDigits x) {
        for (int rules = -1; rules <= 3; rules += 4) {
            for (int i = -1; i <= 12; i++) {
                due("betterSign(" + rules + ", " + i + ")", x.betterSign(rules, i), -2);
            }
            for (int i : FAR_BEYOND) {
                due("betterSign(" + rules + ", " + i + ")", x.betterSign(rules, i), -2);
            }
            for (int i : FAR_BELOW) {
                due("betterSign(" + rules + ", " + i + ")", x.betterSign(rules, i), -2);
            }
        }
    }

    private static LostDigits rich() {
        LostDigits x = with("-*aa*bb", 98, 97, -5, 0, 99);
        x.put(0, 1, 1);
        x.put(4, 1, 5);
        x.set(0, 2);
        x.set(1, 3);
        terms(x, 12, -340, 7);
        pad(x, "+a");
        return x;
    }

    private static void makeOther(LostDigits x) {
        text(x, "+12");
        x.set(0, 4);
        x.set(1, 1);
        for (int i = 0; i < 5; i++) {
            x.put(i, 0, -i);
            x.put(i, 1, 3);
        }
        terms(x, 1, 2, 3, 4, 5, 6, 7);
        pad(x, "+a");
    }

    private static void same(String what, String got, String want) {
        due(what + ": " + got + " for " + want, got.equals(want) ? 1 : 0, 1);
    }

    private static void promise27Image() {
        promise = 27;
        LostDigits x = rich();
        String before = picture(x);
        due("image(0)", x.image(0), 1);
        same("after image", picture(x), before);
        makeOther(x);
        String other = picture(x);
        due("image(1)", x.image(1), 1);
        due("restore(0)", x.restore(0), 1);
        same("restored 0", picture(x), before);
        due("restore(1)", x.restore(1), 1);
        same("restored 1", picture(x), other);
        due("image(0)", x.image(0), 1);
        x.set(0, 1);
        due("restore(0)", x.restore(0), 1);
        same("kept anew", picture(x), other);
        due("image(2)", x.image(2), -2);
        due("image(-1)", x.image(-1), -2);
        for (int v : WILD) {
            due("image(" + v + ")", x.image(v), -2);
        }
    }

    private static void promise28Restore() {
        promise = 28;
        LostDigits x = rich();
        due("restore(0)", x.restore(0), -3);
        due("restore(1)", x.restore(1), -3);
        due("restore(2)", x.restore(2), -2);
        due("restore(-1)", x.restore(-1), -2);
        for (int v : WILD) {
            due("restore(" + v + ")", x.restore(v), -2);
        }
        x.image(1);
        due("restore(0)", x.restore(0), -3);
        long lost = x.loss();
        long far = x.orders(1);
        long greatest = x.truth(1);
        long better = x.better(2);
        // the PAD is not kept, and not taken away
        pad(x, "*abc");
        due("restore(1)", x.restore(1), 1);
        due("told(0)", x.told(0), 4);
        due("fault()", x.fault(), 3);
        makeOther(x);
        x.orders(1);
        x.truth(1);
        x.better(2);
        due("restore(1)", x.restore(1), 1);
        due("loss()", x.loss(), lost);
        due("orders(1)", x.orders(1), far);
        due("truth(1)", x.truth(1), greatest);
        due("better(2)", x.better(2), better);
        // what is changed afterwards does not change the IMAGE
        x.put(0, 0, 3);
        x.term(ONE);
        x.change(0, 1);
        x.change(4, 0);
        due("restore(1)", x.restore(1), 1);
        due("told(10)", x.told(10), 198);
        due("told(4)", x.told(4), 3);
        dueText(x, "-*aa*bb");
        due("restore(1)", x.restore(1), 1);
    }

    private static void promise29Told() {
        promise = 29;
        LostDigits x = rich();
        int[] whats = {0, 1, 2, 3, 4, 10, 11, 12, 13, 14, 20, 21, 22, 23, 24};
        int[] wants = {2, 7, 2, 3, 3, 198, 197, 95, 100, 199, 1, 0, 0, 0, 5};
        for (int i = 0; i < whats.length; i++) {
            due("told(" + whats[i] + ")", x.told(whats[i]), wants[i]);
        }
        for (int v : new int[] {-1, 5, 6, 7, 8, 9, 15, 16, 17, 18, 19, 25, 30}) {
            due("told(" + v + ")", x.told(v), -2);
        }
        for (int v : WILD) {
            due("told(" + v + ")", x.told(v), -2);
        }
    }

    private static void refusalsChangeNothing() {
        promise = 0;
        LostDigits x = rich();
        String before = picture(x);
        x.set(0, 5);
        x.set(1, 4);
        x.set(2, 2);
        x.say(32);
        x.text();
        x.put(0, 0, 100);
        x.put(0, 1, 6);
        x.put(5, 0, 1);
        x.term(10000000 * ONE);
        x.term(-9999000 * ONE);
        x.change(0, 0);
        x.change(9, 0);
        x.change(4, 9);
        x.image(2);
        x.restore(0);
        x.restore(5);
        same("after refused calls", picture(x), before);
        due("restore(0)", x.restore(0), -3);
    }

    private static void answersChangeNothing() {
        LostDigits x = rich();
        String before = picture(x);
        x.round(1, 3, 0);
        x.fault();
        x.worked(0, 2);
        x.exact(0);
        x.loss();
        x.worst();
        x.needs(5);
        for (int i = 0; i < 5; i++) {
            x.sum(i);
        }
        x.orders(0);
        x.order(1, 0);
        x.bounds(0);
        x.truth(0);
        x.fits(4, 0);
        x.better(2);
        x.betterSign(2, 0);
        x.image(0);
        same("after calls that only tell", picture(x), before);
    }
}
