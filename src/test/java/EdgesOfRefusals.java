import java.util.function.Supplier;
import java.util.function.ToLongFunction;

/** Which refusal comes first, in which form it is told, and that refused calls change nothing. */
public final class EdgesOfRefusals extends Edges {
    private static final String FIRST_THAT_FITS = "Calls that are refused answer, the first of these that fits:";

    public static void main(String[] args) {
        test(FIRST_THAT_FITS + " UNKNOWN -1 (there is no such STEP, TERM), OUTSIDE -2 (another number is not as told)",
            EdgesOfRefusals::unknownBeforeOutside);
        test("UNKNOWN -1 (there is no such STEP, TERM)", EdgesOfRefusals::unknownBeforeNo);
        test("OUTSIDE -2 (another number is not as told), STATE -3 (as told)", EdgesOfRefusals::outsideBeforeState);
        test("STATE -3 (as told), NO -5 (as told)", EdgesOfRefusals::outsideBeforeNo);
        test("NO -5 (as told), FULL -4.", EdgesOfRefusals::outsideBeforeFull);
        test("What refused calls answer; NONE: there is none; GREAT.", EdgesOfRefusals::outsideBeforeNone);
        test("What is told of numbers in billionths: LOST and the refusal, GREAT.",
            EdgesOfRefusals::refusedBeforeGreat);
        test("Numbers that may be below 0 and are told in billionths are refused with LOST and the refusal;",
            EdgesOfRefusals::refusedWithLost);
        test("NONE among them is LOST less 6.", EdgesOfRefusals::noneIsLostLessSix);
        test("They change nothing.", EdgesOfRefusals::refusedCallsChangeNothing);
        test("An object is used for at most 512 calls after it has been made;", EdgesOfRefusals::all512Calls);
        end("the edges of refusals");
    }

    private static void unknownBeforeOutside() {
        for (int step : new int[] {-1, 3, 12, 13, Integer.MIN_VALUE, Integer.MAX_VALUE}) {
            for (int other : new int[] {-1, 7, Integer.MIN_VALUE, Integer.MAX_VALUE}) {
                String numbers = "(" + other + " at " + step + ")";
                refused("worked" + numbers, Edges::small, x -> x.worked(step, other), LOST - 1);
                refused("fits" + numbers, Edges::small, x -> x.fits(other, step), UNKNOWN);
                refused("change" + numbers, Edges::small, x -> x.change(other, step), UNKNOWN);
            }
        }
        refused("worked(2, 3)", Edges::small, x -> x.worked(2, 3), LOST - 2);
        refused("fits(7, 2)", Edges::small, x -> x.fits(7, 2), OUTSIDE);
        refused("change(7, 2)", Edges::small, x -> x.change(7, 2), OUTSIDE);
    }

    private static void unknownBeforeNo() {
        for (int rule = 0; rule < 7; rule++) {
            int r = rule;
            refused("change(" + r + ", 3)", Edges::small, x -> x.change(r, 3), UNKNOWN);
            refused("change(" + r + ", -1)", Edges::small, x -> x.change(r, -1), UNKNOWN);
            refused("change(" + r + ", 2)", Edges::small, x -> x.change(r, 2), NO);
        }
    }

    private static void outsideBeforeState() {
        refused("restore(2) of none", Edges::great, x -> x.restore(2), OUTSIDE);
        refused("restore(-1) of none", Edges::great, x -> x.restore(-1), OUTSIDE);
        refused("restore(1) of none", Edges::great, x -> x.restore(1), STATE);
        refused("restore(0) of none", Edges::great, x -> x.restore(0), STATE);
    }

    private static void outsideBeforeNo() {
        refused("change(7, 0) of a", Edges::fresh, x -> x.change(7, 0), OUTSIDE);
        refused("change(-1, 0) of a", Edges::fresh, x -> x.change(-1, 0), OUTSIDE);
        refused("change(6, 0) of a", Edges::fresh, x -> x.change(6, 0), NO);
        refused("change(0, 0) of a", Edges::fresh, x -> x.change(0, 0), NO);
    }

    private static void outsideBeforeFull() {
        for (int sign : new int[] {32, 127, 0, -1, Integer.MIN_VALUE, Integer.MAX_VALUE}) {
            refused("say(" + sign + ") on a full PAD", Edges::full, x -> x.say(sign), OUTSIDE);
        }
        for (int sign : new int[] {33, 97, 126}) {
            refused("say(" + sign + ") on a full PAD", Edges::full, x -> x.say(sign), FULL);
        }
        // up it is GREAT from 9990000 and a billionth on, below 0 from -10000000 on
        long[] outside = {10000000 * ONE, -10000000 * ONE, 9990000 * ONE + 1, Long.MIN_VALUE, Long.MAX_VALUE};
        for (long v : outside) {
            refused("term(" + v + ") behind 7", Edges::full, x -> x.term(v), OUTSIDE);
        }
        for (long v : new long[] {9990000 * ONE, 1 - 10000000 * ONE, 0, 1}) {
            refused("term(" + v + ") behind 7", Edges::full, x -> x.term(v), FULL);
        }
    }

    private static void outsideBeforeNone() {
        for (int v : new int[] {-1, 5}) {
            refused("sum(" + v + ") of none", Edges::great, x -> x.sum(v), LOST - 2);
        }
        for (int v : new int[] {-1, 2}) {
            refused("orders(" + v + ") of none", Edges::great, x -> x.orders(v), LOST - 2);
            refused("order(" + v + ", -1) of none", Edges::great, x -> x.order(v, -1), OUTSIDE);
            refused("order(" + v + ", 0) of none", Edges::great, x -> x.order(v, 0), OUTSIDE);
        }
        for (int v : new int[] {-1, 3}) {
            refused("better(" + v + ") of none", Edges::great, x -> x.better(v), LOST - 2);
            refused("betterSign(" + v + ", -1) of none", Edges::great, x -> x.betterSign(v, -1), OUTSIDE);
            refused("betterSign(" + v + ", 0) of none", Edges::great, x -> x.betterSign(v, 0), OUTSIDE);
        }
        refused("needs(-1) of none", Edges::great, x -> x.needs(-1), OUTSIDE);
        refused("needs(0) of none", Edges::great, x -> x.needs(0), NONE);
    }

    private static void refusedBeforeGreat() {
        for (int v : new int[] {-1, 2}) {
            refused("exact(" + v + ")", Edges::great, x -> x.exact(v), LOST - 2);
            refused("bounds(" + v + ")", Edges::great, x -> x.bounds(v), LOST - 2);
            refused("truth(" + v + ")", Edges::great, x -> x.truth(v), LOST - 2);
        }
        refused("worked(0, 3)", Edges::great, x -> x.worked(0, 3), LOST - 2);
        refused("worked(3, 0)", Edges::great, x -> x.worked(3, 0), LOST - 1);
        refused("worked(0, 0)", Edges::great, x -> x.worked(0, 0), GREAT);
    }

    private static void refusedWithLost() {
        LostDigits x = small();
        due("LOST", LOST, -1000000000000000000L);
        due("round", x.round(1, 0, 0), -1000000000000000002L);
        due("worked, no STEP", x.worked(3, 0), -1000000000000000001L);
        due("worked", x.worked(0, 3), -1000000000000000002L);
        due("exact", x.exact(2), -1000000000000000002L);
        due("about", x.about(1), -1000000000000000001L);
        due("sum", x.sum(5), -1000000000000000002L);
        due("orders", x.orders(2), -1000000000000000002L);
        due("bounds", x.bounds(2), -1000000000000000002L);
        due("truth", x.truth(2), -1000000000000000002L);
        due("better", x.better(3), -1000000000000000002L);
        // what is no number in billionths is refused without it
        due("sign", x.sign(3), -1);
        due("needs", x.needs(-1), -2);
        due("term", x.term(10000000 * ONE), -2);
        due("order", x.order(2, 0), -2);
        due("fits", x.fits(0, 3), -1);
        due("betterSign", x.betterSign(3, 0), -2);
        due("told", x.told(5), -2);
    }

    private static void noneIsLostLessSix() {
        LostDigits x = great();
        for (int how = 0; how <= 4; how++) {
            due("sum(" + how + ")", x.sum(how), -1000000000000000006L);
        }
        for (int most = 0; most <= 1; most++) {
            due("orders(" + most + ")", x.orders(most), -1000000000000000006L);
            due("order(" + most + ", -1)", x.order(most, -1), -6);
        }
        for (int rules = 0; rules <= 2; rules++) {
            due("better(" + rules + ")", x.better(rules), -1000000000000000006L);
            due("betterSign(" + rules + ", -1)", x.betterSign(rules, -1), -6);
        }
        due("needs(0)", x.needs(0), -6);
        due("worst()", fresh().worst(), -6);
        due("fault()", padded("a").fault(), -6);
    }

    private static void refusedCallsChangeNothing() {
        everyRefusal("new: ", Edges::fresh);
        everyRefusal("small: ", Edges::small);
        everyRefusal("rich: ", Edges::rich);
        everyRefusal("full: ", Edges::full);
        everyRefusal("great: ", Edges::great);
        // what only this state refuses
        refused("text() of an empty PAD", Edges::fresh, LostDigits::text, NO);
        refused("text() of *c", Edges::small, LostDigits::text, NO);
        refused("text() of 20 signs", Edges::full, LostDigits::text, NO);
        refused("restore(0)", Edges::small, x -> x.restore(0), STATE);
        refused("restore(1)", Edges::rich, x -> x.restore(1), STATE);
        refused("change(0, 0)", Edges::rich, x -> x.change(0, 0), NO);
        refused("change(4, 1)", Edges::rich, x -> x.change(4, 1), NO);
        refused("worst()", Edges::great, LostDigits::worst, STATE);
    }

    private static void everyRefusal(String state, Supplier<LostDigits> make) {
        refusesOfTexts(state, make);
        refusesOfSums(state, make);
        refusesOfRules(state, make);
    }

    private static void refuses(String what, Supplier<LostDigits> make, long want, ToLongFunction<LostDigits> call) {
        refused(what, make, call, want);
    }

    private static void refusesOfTexts(String s, Supplier<LostDigits> make) {
        refuses(s + "set(0, 0)", make, OUTSIDE, x -> x.set(0, 0));
        refuses(s + "set(0, 5)", make, OUTSIDE, x -> x.set(0, 5));
        refuses(s + "set(1, -1)", make, OUTSIDE, x -> x.set(1, -1));
        refuses(s + "set(1, 4)", make, OUTSIDE, x -> x.set(1, 4));
        refuses(s + "set(-1, 1)", make, OUTSIDE, x -> x.set(-1, 1));
        refuses(s + "set(2, 1)", make, OUTSIDE, x -> x.set(2, 1));
        refuses(s + "round(1000001, 1, 0)", make, LOST - 2, x -> x.round(1000001, 1, 0));
        refuses(s + "round(1, 0, 0)", make, LOST - 2, x -> x.round(1, 0, 0));
        refuses(s + "round(1, 1, 10)", make, LOST - 2, x -> x.round(1, 1, 10));
        refuses(s + "say(32)", make, OUTSIDE, x -> x.say(32));
        refuses(s + "say(127)", make, OUTSIDE, x -> x.say(127));
        refuses(s + "sign(-1)", make, UNKNOWN, x -> x.sign(-1));
        refuses(s + "sign(13)", make, UNKNOWN, x -> x.sign(13));
        refuses(s + "put(-1, 0, 5)", make, OUTSIDE, x -> x.put(-1, 0, 5));
        refuses(s + "put(5, 1, 5)", make, OUTSIDE, x -> x.put(5, 1, 5));
        refuses(s + "put(0, 2, 5)", make, OUTSIDE, x -> x.put(0, 2, 5));
        refuses(s + "put(0, 0, 100)", make, OUTSIDE, x -> x.put(0, 0, 100));
        refuses(s + "put(4, 0, -100)", make, OUTSIDE, x -> x.put(4, 0, -100));
        refuses(s + "put(0, 1, 6)", make, OUTSIDE, x -> x.put(0, 1, 6));
        refuses(s + "put(4, 1, -1)", make, OUTSIDE, x -> x.put(4, 1, -1));
        refuses(s + "worked(13, 0)", make, LOST - 1, x -> x.worked(13, 0));
        refuses(s + "worked(0, 3)", make, LOST - 2, x -> x.worked(0, 3));
        refuses(s + "exact(2)", make, LOST - 2, x -> x.exact(2));
        refuses(s + "needs(-1)", make, OUTSIDE, x -> x.needs(-1));
    }

    private static void refusesOfSums(String s, Supplier<LostDigits> make) {
        refuses(s + "term(10000000)", make, OUTSIDE, x -> x.term(10000000 * ONE));
        refuses(s + "term(-10000000)", make, OUTSIDE, x -> x.term(-10000000 * ONE));
        refuses(s + "about(-1)", make, LOST - 1, x -> x.about(-1));
        refuses(s + "about(7)", make, LOST - 1, x -> x.about(7));
        refuses(s + "sum(-1)", make, LOST - 2, x -> x.sum(-1));
        refuses(s + "sum(5)", make, LOST - 2, x -> x.sum(5));
        refuses(s + "orders(-1)", make, LOST - 2, x -> x.orders(-1));
        refuses(s + "orders(2)", make, LOST - 2, x -> x.orders(2));
        refuses(s + "order(-1, 0)", make, OUTSIDE, x -> x.order(-1, 0));
        refuses(s + "order(2, 0)", make, OUTSIDE, x -> x.order(2, 0));
        refuses(s + "order(0, 7)", make, NONE, x -> x.order(0, 7));
        refuses(s + "bounds(2)", make, LOST - 2, x -> x.bounds(2));
        refuses(s + "truth(2)", make, LOST - 2, x -> x.truth(2));
    }

    private static void refusesOfRules(String s, Supplier<LostDigits> make) {
        refuses(s + "fits(7, 0)", make, OUTSIDE, x -> x.fits(7, 0));
        refuses(s + "fits(0, 13)", make, UNKNOWN, x -> x.fits(0, 13));
        refuses(s + "change(-1, 0)", make, OUTSIDE, x -> x.change(-1, 0));
        refuses(s + "change(7, 0)", make, OUTSIDE, x -> x.change(7, 0));
        refuses(s + "change(0, -1)", make, UNKNOWN, x -> x.change(0, -1));
        refuses(s + "change(0, 13)", make, UNKNOWN, x -> x.change(0, 13));
        refuses(s + "better(3)", make, LOST - 2, x -> x.better(3));
        refuses(s + "betterSign(3, 0)", make, OUTSIDE, x -> x.betterSign(3, 0));
        refuses(s + "betterSign(2, 13)", make, NONE, x -> x.betterSign(2, 13));
        refuses(s + "image(-1)", make, OUTSIDE, x -> x.image(-1));
        refuses(s + "image(2)", make, OUTSIDE, x -> x.image(2));
        refuses(s + "restore(-1)", make, OUTSIDE, x -> x.restore(-1));
        refuses(s + "restore(2)", make, OUTSIDE, x -> x.restore(2));
        refuses(s + "told(5)", make, OUTSIDE, x -> x.told(5));
    }

    /** The last of 512 calls answers as the first does. */
    private static void all512Calls() {
        LostDigits x = fresh();
        for (int i = 1; i <= 20; i++) {
            due("say", x.say('a'), i);
        }
        for (int i = 0; i < 489; i++) {
            due("say", x.say('a'), FULL);
        }
        due("wipe()", x.wipe(), 20);
        due("say", x.say('7'), 1);
        due("text()", x.text(), 1);
    }
}
