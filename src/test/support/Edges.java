import java.io.IOException;
import java.nio.file.Files;
import java.nio.file.Path;
import java.util.ArrayList;
import java.util.List;
import java.util.function.Supplier;
import java.util.function.ToLongFunction;

/**
 * What the tests of the edges share. Each test stands for words of the document, which must stand there as they are
 * told here, and each refused call is made on an object that is then compared with one on which it was not made.
 */
abstract class Edges {
    protected static final long ONE = 1000000000L;
    protected static final long LOST = LostDigits.LOST;
    protected static final long GREAT = LostDigits.GREAT;
    protected static final int UNKNOWN = LostDigits.UNKNOWN;
    protected static final int OUTSIDE = LostDigits.OUTSIDE;
    protected static final int STATE = LostDigits.STATE;
    protected static final int FULL = LostDigits.FULL;
    protected static final int NO = LostDigits.NO;
    protected static final int NONE = LostDigits.NONE;
    /** Numbers that no call takes but as an i, an upper, lower number or a trust. */
    protected static final int[] WILD = {
        Integer.MIN_VALUE, Integer.MIN_VALUE + 1, -1000002, -1000, 1000, 1000002, Integer.MAX_VALUE - 1,
        Integer.MAX_VALUE
    };
    /** Of 1 to 4 digits the greatest below 1000000, and the middle between it and 1000000. */
    protected static final int[] NINES = {900000, 990000, 999000, 999900};
    protected static final int[] MIDDLES = {950000, 995000, 999500, 999950};

    /** 74 by 90 by 50 by 30 is 9990000, the greatest decimal of 3 digits; each step of it has no more than 3. */
    protected static final String MOST = "***abcd";

    private static final Path DOCUMENT = Path.of("../shared/DOC.md");

    private static int tests = 0;
    private static int checks = 0;
    private static int wrong = 0;
    private static String words = "";

    /** A test of its own for these words of the document. */
    protected static void test(String itsWords, Runnable body) {
        words = itsWords;
        int before = checks;
        due("the document has these words", isInDocument(words) ? 1 : 0, 1);
        body.run();
        if (checks == before + 1) {
            fail("nothing was looked at");
        }
        tests++;
    }

    protected static void end(String name) {
        System.out.println(name + ": " + tests + " tests, " + checks + " checks, " + wrong + " wrong");
        if (wrong != 0) {
            System.exit(1);
        }
    }

    private static boolean isInDocument(String part) {
        try {
            // where the document is not at hand, the tests hold without it
            return !Files.exists(DOCUMENT) || inOneLine(Files.readString(DOCUMENT)).contains(inOneLine(part));
        } catch (IOException e) {
            return false;
        }
    }

    private static String inOneLine(String signs) {
        return signs.replaceAll("\\s+", " ");
    }

    private static void fail(String what) {
        wrong++;
        System.out.println("\"" + words + "\": " + what);
    }

    protected static void due(String what, long got, long want) {
        checks++;
        if (got != want) {
            fail(what + " answered " + got + ", due is " + want);
        }
    }

    protected static void dueText(LostDigits x, String want) {
        same("the TEXT", shown(x), want);
    }

    protected static void same(String what, String got, String want) {
        checks++;
        if (!got.equals(want)) {
            fail(what + " is " + got + ", due is " + want);
        }
    }

    /** The call is refused with that answer, and all is as it is without the call, on the PAD and in the IMAGES too. */
    protected static void refused(String what, Supplier<LostDigits> state, ToLongFunction<LostDigits> call, long want) {
        LostDigits with = state.get();
        String before = answers(with);
        due(what, call.applyAsLong(with), want);
        same("behind " + what + " what is told", answers(with), before);
        same("behind " + what + " what is kept", rest(with), rest(state.get()));
    }

    /** The same for objects that differ only in this one call's number. */
    protected static void refusedAll(String what, int[] numbers, CallWith call, long want) {
        for (int v : numbers) {
            refused(what + " with " + v, Edges::small, x -> call.on(x, v), want);
        }
    }

    /** A call with a number. */
    protected interface CallWith {
        long on(LostDigits x, int v);
    }

    /** All that can be asked without a change. */
    protected static String answers(LostDigits x) {
        List<Long> all = new ArrayList<>();
        for (int i = 0; i < 5; i++) {
            all.add((long) x.told(i));
            all.add((long) x.told(10 + i));
            all.add((long) x.told(20 + i));
            all.add(x.sum(i));
        }
        for (int i = 0; i < x.told(4); i++) {
            all.add(x.about(i));
        }
        for (int i = 0; i < 2; i++) {
            all.add(x.exact(i));
            all.add(x.orders(i));
            all.add((long) x.order(i, -1));
            all.add((long) x.order(i, 0));
            all.add(x.bounds(i));
            all.add(x.truth(i));
            all.add(x.better(i + 1));
            all.add((long) x.betterSign(i + 1, -1));
        }
        all.add(x.loss());
        all.add((long) x.worst());
        all.add((long) x.needs(ONE));
        all.add((long) x.fault());
        String signs = shown(x);
        for (int i = 0; i < signs.length(); i++) {
            all.add(x.worked(i, 2));
        }
        return signs + all;
    }

    /** The signs on the PAD and the IMAGES; what is asked is changed by that. */
    private static String rest(LostDigits x) {
        StringBuilder all = new StringBuilder();
        all.append(x.say('b')).append(' ').append(x.fault()).append(' ').append(x.text()).append(shown(x));
        for (int n = 0; n < 2; n++) {
            all.append(' ').append(x.restore(n)).append(answers(x));
        }
        return all.toString();
    }

    protected static LostDigits fresh() {
        return new LostDigits();
    }

    /** The TEXT is +ab; a sign more makes a text of the PAD; one IMAGE. */
    protected static LostDigits small() {
        LostDigits x = with("+ab", 7, -3);
        x.term(5 * ONE);
        x.image(1);
        x.put(1, 1, 2);
        pad(x, "*c");
        return x;
    }

    /** Each number is another than at first. */
    protected static LostDigits rich() {
        LostDigits x = with("-*aa*cc", 5, 6, 7, 8, 9);
        x.image(0);
        text(x, "-*aa*bb");
        numbers(x, 98, 97, -5, 0, 99);
        x.put(0, 1, 1);
        x.put(4, 1, 5);
        x.set(0, 2);
        x.set(1, 3);
        terms(x, 12 * ONE, -340 * ONE, 7 * ONE);
        pad(x, "+a");
        return x;
    }

    /** No sign, no TERM more can come; both IMAGES. */
    protected static LostDigits full() {
        LostDigits x = with("/+*ab-cd+*eab", 9, -8, 7, 60, 5);
        x.image(0);
        x.set(1, 2);
        terms(x, 7 * ONE, 60 * ONE, -500 * ONE, 4 * ONE, 3000 * ONE, 2 * ONE, ONE);
        x.image(1);
        x.put(2, 1, 3);
        pad(x, "++++++abcdeabcdeabcd");
        return x;
    }

    /** The TEXT is GREAT; no TERM, no sign, no IMAGE. */
    protected static LostDigits great() {
        return with("/a0", 4);
    }

    protected static void pad(LostDigits x, String signs) {
        x.wipe();
        for (int i = 0; i < signs.length(); i++) {
            x.say(signs.charAt(i));
        }
    }

    protected static LostDigits padded(String signs) {
        LostDigits x = fresh();
        pad(x, signs);
        return x;
    }

    protected static void text(LostDigits x, String signs) {
        pad(x, signs);
        due("text() of " + signs, x.text(), signs.length());
    }

    protected static LostDigits with(String signs, int... numbers) {
        LostDigits x = fresh();
        text(x, signs);
        numbers(x, numbers);
        return x;
    }

    protected static LostDigits with(int digits, int way, String signs, int... numbers) {
        LostDigits x = with(signs, numbers);
        x.set(0, digits);
        x.set(1, way);
        return x;
    }

    protected static void numbers(LostDigits x, int... numbers) {
        for (int i = 0; i < numbers.length; i++) {
            x.put(i, 0, numbers[i]);
        }
    }

    /** Told in billionths. */
    protected static void terms(LostDigits x, long... terms) {
        x.clear();
        for (int i = 0; i < terms.length; i++) {
            due("term(" + terms[i] + ")", x.term(terms[i]), i + 1);
        }
    }

    protected static String shown(LostDigits x) {
        StringBuilder signs = new StringBuilder();
        for (int i = 0; i < x.told(1); i++) {
            signs.append((char) x.sign(i));
        }
        return signs.toString();
    }
}
