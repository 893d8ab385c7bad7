import java.util.function.Supplier;

/** TERMS, SUMS, ORDERS: promises 15 to 20. */
public final class EdgesOfSums extends Edges {
    public static void main(String[] args) {
        testTerms();
        testSums();
        testOrders();
        end("the edges of sums");
    }

    private static void testTerms() {
        test("TERMS, up to 7, are DECIMALS told in billionths", EdgesOfSums::sevenTerms);
        test("(as they are told they are ROUNDED).", EdgesOfSums::termsAreRounded);
        test("OUTSIDE: it is not above -10000000000000000, below 10000000000000000,", EdgesOfSums::termsOutside);
        test("or ROUNDED it is GREAT; FULL.", EdgesOfSums::termsThatAreGreat);
        test("A TERM: how many.", EdgesOfSums::tinyTerms);
        test("TERMS go: how many there were.", EdgesOfSums::clear);
        test("A TERM. UNKNOWN.", EdgesOfSums::about);
    }

    private static void testSums() {
        test("the first TERM as it is, each next one added, ROUNDED each time.", EdgesOfSums::firstAsItIs);
        test("BESIDE: kept with its lost part: s and c are 0;", EdgesOfSums::beside);
        test("for each TERM t as told: y is t less c, z is s and y, c becomes (z less s) less y, s becomes z;",
            EdgesOfSums::besideStepByStep);
        test("c becomes (z less s) less y, s becomes z; each ROUNDED.", EdgesOfSums::besideEachRounded);
        test("HALVES: the SUM of the first half of the TERMS (the greater one of unlike halves)",
            EdgesOfSums::unlikeHalves);
        test("and that of the rest, each likewise, ROUNDED.", EdgesOfSums::halvesOfHalves);
        test("BY SIZE: in the order of TERMS from the nearest to 0 on (of like ones the lesser number first).",
            EdgesOfSums::bySize);
        test("(One that is GREAT on the way is GREAT.)", EdgesOfSums::sumsThatAreGreat);
        test("A SUM: 0 as told, 1 BESIDE, 2 HALVES, 3 BY SIZE; 4 the whole sum.", EdgesOfSums::fiveSums);
        test("4 the whole sum.", EdgesOfSums::wholeSum);
        test("OUTSIDE, NONE: no TERMS.", EdgesOfSums::sumsRefused);
    }

    private static void testOrders() {
        test("Its LOSS: less the whole sum.", EdgesOfSums::lossOfAnOrder);
        test("ORDERS: all orders that are not GREAT on the way:", EdgesOfSums::ordersThatAreGreat);
        test("the LOSS nearest to 0, the farthest;", EdgesOfSums::nearestAndFarthest);
        test("how many orders have just that;", EdgesOfSums::howManyHaveJustThat);
        test("the first of these by TERMS' numbers.", EdgesOfSums::firstByNumbers);
        test("of like ones that above 0.", EdgesOfSums::aboveNought);
        test("ORDERS: the LOSS that is nearest to 0 (most 0), the farthest (1);", EdgesOfSums::ordersRefused);
        test("OUTSIDE, NONE: no TERMS, or all are GREAT.", EdgesOfSums::noOrders);
        test("ORDERS: how many have it (i = -1), the i-th TERM of the first; NONE. OUTSIDE.", EdgesOfSums::order);
    }

    private static LostDigits summed(int digits, int way, long... ones) {
        LostDigits x = fresh();
        x.set(0, digits);
        x.set(1, way);
        terms(x, billionths(ones));
        return x;
    }

    private static long[] billionths(long... ones) {
        long[] all = new long[ones.length];
        for (int i = 0; i < ones.length; i++) {
            all[i] = ones[i] * ONE;
        }
        return all;
    }

    private static Supplier<LostDigits> some(int count) {
        return () -> {
            LostDigits x = fresh();
            for (int i = 1; i <= count; i++) {
                x.term(i * ONE);
            }
            return x;
        };
    }

    private static void sevenTerms() {
        LostDigits x = fresh();
        for (int i = 1; i <= 7; i++) {
            due("term(" + i + ")", x.term(i * ONE), i);
            due("told(4)", x.told(4), i);
        }
        for (int i = 0; i < 7; i++) {
            due("about(" + i + ")", x.about(i), (i + 1) * ONE);
        }
        due("the 8th", x.term(8 * ONE), FULL);
        due("told(4)", x.told(4), 7);
        for (long v : new long[] {0, 1, -1, 8 * ONE, 9990000 * ONE, -9990000 * ONE}) {
            refused("the 8th, " + v, some(7), y -> y.term(v), FULL);
        }
        due("the 7th", some(6).get().term(0), 7);
        // there is room again when they are gone
        due("clear()", x.clear(), 7);
        due("term", x.term(ONE), 1);
    }

    private static void told(int digits, int way, long v, long want) {
        LostDigits x = fresh();
        x.set(0, digits);
        x.set(1, way);
        due("term(" + v + ") of " + digits + " digits by way " + way, x.term(v), 1);
        due("about(0) of " + v + ", " + digits + " digits by way " + way, x.about(0), want);
    }

    private static void termsAreRounded() {
        long[] above = {1230000000L, 1230000000L, 1240000000L, 1230000000L};
        long[] below = {-1230000000L, -1230000000L, -1230000000L, -1240000000L};
        for (int way = 0; way < 4; way++) {
            told(3, way, 1230000001L, above[way]);
            told(3, way, -1230000001L, below[way]);
            told(3, way, 1230000000L, 1230000000L);
            told(3, way, 0, 0);
        }
        told(3, 0, 1235000000L, 1240000000L);
        told(3, 0, 1245000000L, 1240000000L);
        told(3, 0, 1245000001L, 1250000000L);
        told(1, 0, 1499999999L, ONE);
        told(4, 0, 1234500000L, 1234000000L);
        // as they are told, not later
        LostDigits x = fresh();
        x.term(1234567890L);
        x.set(0, 4);
        due("about(0)", x.about(0), 1230000000L);
        x.term(1234567890L);
        x.set(0, 1);
        due("about(1)", x.about(1), 1235000000L);
        due("about(0)", x.about(0), 1230000000L);
    }

    private static void termsOutside() {
        for (int digits = 1; digits <= 4; digits++) {
            long nines = NINES[digits - 1] * 10L * ONE;
            told(digits, 1, 9999999999999999L, nines);
            told(digits, 3, 9999999999999999L, nines);
            told(digits, 1, -9999999999999999L, -nines);
            told(digits, 2, -9999999999999999L, -nines);
            for (int way = 0; way < 4; way++) {
                outside(digits, way, 10000000000000000L);
                outside(digits, way, -10000000000000000L);
                outside(digits, way, 10000000000000001L);
                outside(digits, way, -10000000000000001L);
                outside(digits, way, Long.MAX_VALUE);
                outside(digits, way, Long.MIN_VALUE);
            }
        }
    }

    private static void outside(int digits, int way, long v) {
        refused("term(" + v + ") of " + digits + " digits by way " + way, () -> {
            LostDigits x = fresh();
            x.set(0, digits);
            x.set(1, way);
            x.term(5 * ONE);
            return x;
        }, y -> y.term(v), OUTSIDE);
    }

    private static void termsThatAreGreat() {
        for (int digits = 1; digits <= 4; digits++) {
            long nines = NINES[digits - 1] * 10L * ONE;
            long middle = MIDDLES[digits - 1] * 10L * ONE;
            told(digits, 0, middle - 1, nines);
            outside(digits, 0, middle);
            told(digits, 0, 1 - middle, -nines);
            outside(digits, 0, -middle);
            told(digits, 2, nines, nines);
            outside(digits, 2, nines + 1);
            told(digits, 3, -nines, -nines);
            outside(digits, 3, -nines - 1);
            outside(digits, 0, 9999999999999999L);
            outside(digits, 2, 9999999999999999L);
            outside(digits, 0, -9999999999999999L);
            outside(digits, 3, -9999999999999999L);
        }
    }

    /** Those that come to 0 are TERMS, too. */
    private static void tinyTerms() {
        long[] lastNought = {949, 994, 999, 999};
        long[] lastNoughtUp = {900, 990, 999, 999};
        for (int digits = 1; digits <= 4; digits++) {
            int d = digits - 1;
            told(digits, 0, lastNought[d], 0);
            told(digits, 0, lastNought[d] + 1, 1000);
            told(digits, 0, -lastNought[d], 0);
            told(digits, 0, -lastNought[d] - 1, -1000);
            told(digits, 2, lastNoughtUp[d], 0);
            told(digits, 2, lastNoughtUp[d] + 1, 1000);
            told(digits, 3, -lastNoughtUp[d], 0);
            told(digits, 3, -lastNoughtUp[d] - 1, -1000);
            for (int way = 0; way < 4; way++) {
                told(digits, way, 1, 0);
                told(digits, way, -1, 0);
                told(digits, way, 0, 0);
                told(digits, way, 1000, 1000);
                told(digits, way, -1000, -1000);
            }
            told(digits, 1, 999, 0);
            told(digits, 1, -999, 0);
            told(digits, 3, 999, 0);
            told(digits, 2, -999, 0);
        }
        LostDigits x = fresh();
        for (int i = 1; i <= 7; i++) {
            due("term(1)", x.term(1), i);
        }
        due("term(1)", x.term(1), FULL);
        due("sum(0)", x.sum(0), 0);
    }

    private static void clear() {
        LostDigits x = fresh();
        due("clear()", x.clear(), 0);
        for (int count = 1; count <= 7; count++) {
            LostDigits y = some(count).get();
            due("clear()", y.clear(), count);
            due("told(4)", y.told(4), 0);
            due("about(0)", y.about(0), LOST - 1);
            due("sum(0)", y.sum(0), LOST - 6);
            due("orders(0)", y.orders(0), LOST - 6);
            due("clear()", y.clear(), 0);
            due("term", y.term(9 * ONE), 1);
            due("about(0)", y.about(0), 9 * ONE);
            due("about(1)", y.about(1), LOST - 1);
            due("sum(4)", y.sum(4), 9 * ONE);
        }
        // all else stays
        x = rich();
        String signs = shown(x);
        due("clear()", x.clear(), 3);
        dueText(x, signs);
        due("told(0)", x.told(0), 2);
        due("told(2)", x.told(2), 2);
        due("restore(0)", x.restore(0), 1);
    }

    private static void about() {
        due("about(0)", fresh().about(0), LOST - 1);
        for (int count = 1; count <= 7; count++) {
            LostDigits x = some(count).get();
            due("about(" + (count - 1) + ")", x.about(count - 1), count * ONE);
            int c = count;
            refused("about(" + c + ")", some(c), y -> y.about(c), LOST - 1);
            refused("about(-1)", some(c), y -> y.about(-1), LOST - 1);
        }
        refusedAll("about(v)", WILD, (y, v) -> y.about(v), LOST - 1);
    }

    private static void sums(LostDigits x, long... ones) {
        for (int how = 0; how < ones.length; how++) {
            due("sum(" + how + ")", x.sum(how), ones[how] == GREAT ? GREAT : ones[how] * ONE);
        }
    }

    private static void firstAsItIs() {
        // 1234 was told with 4 digits
        for (int digits = 1; digits <= 4; digits++) {
            LostDigits x = summed(4, 0, 1234);
            x.set(0, digits);
            sums(x, 1234, new long[] {1000, 1200, 1230, 1234}[digits - 1], 1234, 1234, 1234);
            due("orders(0)", x.orders(0), 0);
        }
        LostDigits x = summed(4, 0, 1234, 0);
        x.set(0, 1);
        sums(x, 1000, 1000, 1000, 1000, 1234);
        // 1000 and 4 is 1004, each time
        sums(summed(3, 0, 1000, 4, 4, 4), 1000);
        sums(summed(3, 2, 1000, 4, 4, 4), 1030);
        sums(summed(3, 1, -1000, -4, -4, -4), -1000);
        sums(summed(3, 3, -1000, -4, -4, -4), -1030);
    }

    private static void beside() {
        // c is -4, so 8 come next, then c is 2 less and so on
        sums(summed(3, 0, 1000, 4), 1000, 1000);
        sums(summed(3, 0, 1000, 4, 4), 1000, 1010);
        sums(summed(3, 0, 1000, 4, 4, 4), 1000, 1010);
        sums(summed(3, 0, 1000, 4, 4, 4, 4), 1000, 1020);
        sums(summed(3, 0, -1000, -4, -4, -4, -4), -1000, -1020);
        sums(summed(3, 0, 7), 7, 7);
        sums(summed(3, 0, 0), 0, 0);
        // the TERM, too, is ROUNDED before it is added
        LostDigits x = summed(4, 0, 1234, 5678);
        x.set(0, 2);
        sums(x, 6900, 6900);
        x = summed(4, 0, 1449, 1449);
        x.set(0, 1);
        sums(x, 3000, 2000);
    }

    private static void besideStepByStep() {
        // z 1000, c -4; y 8, z 1010, c 2; y 2, z 1010, c -2; y 6, z 1020, c 4
        LostDigits x = fresh();
        long[] wants = {1000, 1000, 1010, 1010, 1020, 1020, 1020};
        for (int i = 0; i < 7; i++) {
            x.term((i == 0 ? 1000 : 4) * ONE);
            due("sum(1) of " + (i + 1), x.sum(1), wants[i] * ONE);
        }
        // as told, not by size
        due("sum(1)", summed(3, 0, 4, 1000).sum(1), 1000 * ONE);
        due("sum(1)", summed(3, 0, 4, 1000, -1000).sum(1), 4 * ONE);
        due("sum(1)", summed(3, 0, -1000, 1000, 4).sum(1), 4 * ONE);
    }

    /** Were only one of them not ROUNDED, each of these would come to another end. */
    private static void besideEachRounded() {
        // y: 10 and 4 is 10, c -4; -20 less -4 is -16, so -20
        due("y", summed(1, 0, 10, 4, -20).sum(1), -10 * ONE);
        due("y", summed(1, 1, -60, -4, 40).sum(1), -30 * ONE);
        due("y", summed(1, 2, 60, 1, -60).sum(1), 10 * ONE);
        due("y", summed(1, 3, -60, 4, 60).sum(1), 0);
        // z less s: 3 and 30 is 30, less 3 is 27, so 30: nothing seems lost
        due("z less s", summed(1, 0, 3, 30, 4).sum(1), 30 * ONE);
        due("z less s", summed(1, 1, 6, -20, 5).sum(1), -10 * ONE);
        due("z less s", summed(1, 2, 4, -60, -1).sum(1), -60 * ONE);
        due("z less s", summed(1, 3, -3, 20, -60).sum(1), -40 * ONE);
        // less y: 299 towards 0 is 200, less 300 is -100, less -1 is -99, so -90
        due("c", summed(1, 1, 300, -1, 1).sum(1), 200 * ONE);
        due("c", summed(1, 2, 4, 9, -10).sum(1), -10 * ONE);
        due("c", summed(1, 3, -90, -90, 20).sum(1), 0);
    }

    private static void unlikeHalves() {
        due("sum(2) of 1", summed(1, 0, 7).sum(2), 7 * ONE);
        due("sum(2) of 2", summed(1, 0, 10, 4).sum(2), 10 * ONE);
        // 10 and 4, then 4; the other way it would be 20
        due("sum(2) of 3", summed(1, 0, 10, 4, 4).sum(2), 10 * ONE);
        due("sum(2) of 3", summed(1, 0, 4, 4, 10).sum(2), 20 * ONE);
        // 10 and 10 and 6, then 8; the other way it would be 30
        due("sum(2) of 5", summed(1, 0, 10, 10, 6, 4, 4).sum(2), 40 * ONE);
        // 20 and 8, then 20 and 10; the other way it would be 50
        due("sum(2) of 7", summed(1, 0, 10, 10, 4, 4, 10, 10, 10).sum(2), 60 * ONE);
    }

    private static void halvesOfHalves() {
        // 10 and 4 and 4, 6 and 6 and 4: 10 each
        sums(summed(1, 0, 10, 4, 4, 6, 6, 4), 30, 30, 20, 40, 34);
        due("sum(2) of 4", summed(1, 0, 10, 4, 4, 4).sum(2), 20 * ONE);
        due("sum(2) of 4", summed(1, 0, 4, 4, 10, 4).sum(2), 20 * ONE);
        // by four the half is halved again: 20 and 8, not 20 and 4 and 4
        due("sum(2) of 7", summed(1, 0, 10, 10, 4, 4, 10, 10, 4).sum(2), 50 * ONE);
        due("sum(2) of 7", summed(1, 0, 10, 10, 4, 4, 0, 0, 0).sum(2), 30 * ONE);
    }

    private static void bySize() {
        due("nearest first", summed(3, 0, 1000, 4, 4).sum(3), 1010 * ONE);
        due("nearest first", summed(3, 0, 4, 1000, 4).sum(3), 1010 * ONE);
        due("nearest first, below 0", summed(3, 0, -1000, -4, -4).sum(3), -1010 * ONE);
        due("nearest, not least", summed(3, 0, 4, -1000, 4).sum(3), -992 * ONE);
        due("nearest, not least", summed(1, 0, 4, -10, 4).sum(3), -2 * ONE);
        // 1 and 10 is 10, less 10 is 0; 1 less 10 is -9, and 10 is 1
        due("of like ones the first", summed(1, 0, 10, -10, 1).sum(3), 0);
        due("of like ones the first", summed(1, 0, -10, 10, 1).sum(3), ONE);
        due("of like ones the first", summed(1, 0, 1, 10, -10).sum(3), 0);
        due("of like ones the first", summed(1, 0, 1, -10, 10).sum(3), ONE);
        due("all are like", summed(3, 0, 5, 5, 5, 5, 5, 5, 5).sum(3), 35 * ONE);
    }

    private static void sumsThatAreGreat() {
        // the greatest and the first that is GREAT, on each side
        sums(summed(3, 0, 9000000, 990000), 9990000, 9990000, 9990000, 9990000, 9990000);
        sums(summed(3, 0, 9000000, 994000), 9990000, 9990000, 9990000, 9990000, 9994000);
        sums(summed(3, 0, 9000000, 995000), GREAT, GREAT, GREAT, GREAT, 9995000);
        sums(summed(3, 0, -9000000, -994000), -9990000, -9990000, -9990000, -9990000, -9994000);
        sums(summed(3, 0, -9000000, -995000), GREAT, GREAT, GREAT, GREAT, -9995000);
        sums(summed(3, 1, 9000000, 999000), 9990000, 9990000, 9990000, 9990000, 9999000);
        sums(summed(3, 1, 9000000, 1000000), GREAT, GREAT, GREAT, GREAT, 10000000);
        sums(summed(3, 1, -9000000, -1000000), GREAT, GREAT, GREAT, GREAT, -10000000);
        // on the way alone, and each SUM by its own way
        sums(summed(3, 0, 9000000, 9000000, -9000000, -9000000), GREAT, GREAT, GREAT, GREAT, 0);
        sums(summed(3, 0, 6000000, 5000000, -4000000), GREAT, GREAT, GREAT, 7000000, 7000000);
        sums(summed(3, 0, 6000000, -9000000, 5000000), 2000000, 2000000, 2000000, GREAT, 2000000);
        sums(summed(3, 0, -4000000, 1000000, 6000000, 5000000), 8000000, 8000000, GREAT, 8000000, 8000000);
        sums(summed(3, 0, 4000000, -1000000, -6000000, -5000000), -8000000, -8000000, GREAT, -8000000, -8000000);
        // BESIDE alone: 9990000 less -1000 is 9991000, up that is GREAT
        sums(summed(3, 2, -1000, 9990000), 9990000, GREAT, 9990000, 9990000, 9989000);
        sums(summed(3, 3, 1000, -9990000), -9990000, GREAT, -9990000, -9990000, -9989000);
    }

    private static void fiveSums() {
        LostDigits x = summed(1, 0, 10, 4, 4, 6, 6, 4);
        sums(x, 30, 30, 20, 40, 34);
        // what is asked changes nothing
        sums(x, 30, 30, 20, 40, 34);
        for (int how = 0; how <= 4; how++) {
            int h = how;
            long want = small().sum(h);
            refused("sum(" + h + ")", Edges::small, y -> y.sum(h), want);
        }
    }

    private static void wholeSum() {
        due("sum(4)", summed(3, 0, 9000000, 999000).sum(4), 9999000 * ONE);
        due("sum(4)", summed(3, 0, 9000000, 1000000).sum(4), 10000000 * ONE);
        long most = 9990000;
        due("sum(4)", summed(3, 0, most, most, most, most, most, most, most).sum(4), 69930000 * ONE);
        due("sum(4)", summed(3, 0, -most, -most, -most, -most, -most, -most, -most).sum(4), -69930000 * ONE);
        LostDigits x = fresh();
        terms(x, 9990000 * ONE, 1000, -9990000 * ONE);
        due("sum(4)", x.sum(4), 1000);
        due("sum(0)", x.sum(0), 0);
    }

    private static void sumsRefused() {
        for (int how = 0; how <= 4; how++) {
            int h = how;
            refused("sum(" + h + ") of no TERMS", Edges::great, y -> y.sum(h), LOST - 6);
            due("sum(" + h + ") of one TERM", some(1).get().sum(h), ONE);
            LostDigits x = some(3).get();
            x.clear();
            due("sum(" + h + ") when they are gone", x.sum(h), LOST - 6);
        }
        for (int how : new int[] {-1, 5, 6}) {
            refused("sum(" + how + ")", Edges::small, y -> y.sum(how), LOST - 2);
            refused("sum(" + how + ") of no TERMS", Edges::great, y -> y.sum(how), LOST - 2);
        }
        refusedAll("sum(v)", WILD, (y, v) -> y.sum(v), LOST - 2);
    }

    private static void orders(LostDigits x, int most, long lost, int count, int... first) {
        due("orders(" + most + ")", x.orders(most), lost);
        due("order(" + most + ", -1)", x.order(most, -1), count);
        for (int i = 0; i < first.length; i++) {
            due("order(" + most + ", " + i + ")", x.order(most, i), first[i]);
        }
        due("order(" + most + ", " + first.length + ")", x.order(most, first.length), NONE);
    }

    private static void lossOfAnOrder() {
        orders(some(1).get(), 0, 0, 1, 0);
        orders(some(1).get(), 1, 0, 1, 0);
        // 1230 and 4 is 1234, come to 1230
        orders(summed(3, 0, 1230, 4), 0, -4 * ONE, 2, 0, 1);
        orders(summed(3, 0, 1230, 4), 1, -4 * ONE, 2, 0, 1);
        orders(summed(3, 2, 1230, 4), 0, 6 * ONE, 2, 0, 1);
        orders(summed(3, 0, -1230, -4), 0, 4 * ONE, 2, 0, 1);
        // one TERM of more digits is as it is
        LostDigits x = summed(4, 0, 1234);
        x.set(0, 1);
        orders(x, 0, 0, 1, 0);
        orders(x, 1, 0, 1, 0);
    }

    private static void ordersThatAreGreat() {
        orders(summed(3, 0, 9000000, 9000000, -9000000), 0, 0, 4, 0, 2, 1);
        orders(summed(3, 0, 9000000, 9000000, -9000000), 1, 0, 4, 0, 2, 1);
        orders(summed(3, 0, -9000000, -9000000, 9000000), 0, 0, 4, 0, 2, 1);
        // of 7 TERMS: 6000000 and 5000000 before -5000000 is every third
        orders(summed(3, 0, 6000000, 5000000, -5000000, 0, 0, 0, 0), 0, 0, 3360, 0, 2, 1, 3, 4, 5, 6);
        // the last one that is not GREAT, and the first that is
        orders(summed(3, 0, 9000000, 994000), 0, -4000 * ONE, 2, 0, 1);
        due("orders(0)", summed(3, 0, 9000000, 995000).orders(0), LOST - 6);
        due("orders(1)", summed(3, 0, -9000000, -995000).orders(1), LOST - 6);
    }

    private static void nearestAndFarthest() {
        LostDigits x = summed(3, 0, 1000, 4, 4);
        orders(x, 0, 2 * ONE, 2, 1, 2, 0);
        orders(x, 1, -8 * ONE, 4, 0, 1, 2);
        x = summed(3, 0, -1000, -4, -4);
        orders(x, 0, -2 * ONE, 2, 1, 2, 0);
        orders(x, 1, 8 * ONE, 4, 0, 1, 2);
        orders(some(7).get(), 0, 0, 5040, 0, 1, 2, 3, 4, 5, 6);
        orders(some(7).get(), 1, 0, 5040, 0, 1, 2, 3, 4, 5, 6);
    }

    private static void howManyHaveJustThat() {
        int ways = 1;
        for (int count = 1; count <= 7; count++) {
            ways *= count;
            due("order(0, -1) of " + count, some(count).get().order(0, -1), ways);
            due("order(1, -1) of " + count, some(count).get().order(1, -1), ways);
        }
        // as far below 0 is not just that: two orders lose 5 more, four 5 less
        due("order(0, -1)", summed(1, 0, 4, -9, -20).order(0, -1), 2);
        due("order(1, -1)", summed(1, 0, 4, -9, -20).order(1, -1), 2);
        due("order(0, -1)", summed(1, 0, -4, 9, 20).order(0, -1), 4);
        due("order(1, -1)", summed(1, 0, -4, 9, 20).order(1, -1), 4);
    }

    private static void firstByNumbers() {
        orders(summed(3, 0, 4, 1000, 4), 0, 2 * ONE, 2, 0, 2, 1);
        orders(summed(3, 0, 4, 1000, 4), 1, -8 * ONE, 4, 0, 1, 2);
        orders(summed(3, 0, 4, 4, 1000), 0, 2 * ONE, 2, 0, 1, 2);
        orders(summed(3, 0, 4, 4, 1000), 1, -8 * ONE, 4, 0, 2, 1);
        // TERMS that are like have their own numbers
        orders(summed(3, 0, 5, 5, 5), 0, 0, 6, 0, 1, 2);
    }

    private static void aboveNought() {
        orders(summed(1, 0, 4, -9, -20), 0, 5 * ONE, 2, 0, 1, 2);
        orders(summed(1, 0, 4, -9, -20), 1, 5 * ONE, 2, 0, 1, 2);
        // the first order loses 5 less, yet that above 0 is taken
        orders(summed(1, 0, -4, 9, 20), 0, 5 * ONE, 4, 0, 2, 1);
        orders(summed(1, 0, -4, 9, 20), 1, 5 * ONE, 4, 0, 2, 1);
    }

    private static void ordersRefused() {
        for (int most : new int[] {-1, 2, 3}) {
            refused("orders(" + most + ")", Edges::small, y -> y.orders(most), LOST - 2);
            refused("orders(" + most + ") of no TERMS", Edges::great, y -> y.orders(most), LOST - 2);
        }
        refusedAll("orders(v)", WILD, (y, v) -> y.orders(v), LOST - 2);
        refused("orders(0)", Edges::small, y -> y.orders(0), 0);
        refused("orders(1)", Edges::small, y -> y.orders(1), 0);
        ordersFollowChanges();
    }

    /** What was found is not told again when it is another. */
    private static void ordersFollowChanges() {
        LostDigits x = summed(3, 0, 1000, 4);
        orders(x, 0, -4 * ONE, 2, 0, 1);
        x.term(4 * ONE);
        orders(x, 0, 2 * ONE, 2, 1, 2, 0);
        x.set(0, 4);
        orders(x, 0, 0, 6, 0, 1, 2);
        x.set(0, 3);
        x.set(1, 2);
        orders(x, 1, 12 * ONE, 4, 0, 1, 2);
        x.image(0);
        x.clear();
        x.term(ONE);
        orders(x, 1, 0, 1, 0);
        x.restore(0);
        orders(x, 1, 12 * ONE, 4, 0, 1, 2);
    }

    private static LostDigits allGreat() {
        return summed(3, 0, 9000000, 9000000);
    }

    private static void noOrders() {
        for (int most = 0; most <= 1; most++) {
            int m = most;
            refused("orders(" + m + ") of no TERMS", Edges::great, y -> y.orders(m), LOST - 6);
            refused("orders(" + m + ") that are GREAT", EdgesOfSums::allGreat, y -> y.orders(m), LOST - 6);
            for (int i = -2; i <= 7; i++) {
                due("order(" + m + ", " + i + ") of no TERMS", fresh().order(m, i), NONE);
                due("order(" + m + ", " + i + ") that is GREAT", allGreat().order(m, i), NONE);
            }
        }
        // one TERM is never GREAT; when a TERM that was found with others is gone, so are they
        due("orders(0)", summed(3, 0, 9990000).orders(0), 0);
        LostDigits x = some(3).get();
        due("orders(0)", x.orders(0), 0);
        x.clear();
        due("orders(0)", x.orders(0), LOST - 6);
        due("order(0, -1)", x.order(0, -1), NONE);
    }

    private static void order() {
        for (int count = 1; count <= 7; count++) {
            for (int most = 0; most <= 1; most++) {
                int m = most;
                int c = count;
                LostDigits x = some(c).get();
                due("order(" + m + ", 0)", x.order(m, 0), 0);
                due("order(" + m + ", " + (c - 1) + ")", x.order(m, c - 1), c - 1);
                due("order(" + m + ", " + c + ")", x.order(m, c), NONE);
                due("order(" + m + ", -2)", x.order(m, -2), NONE);
                for (int v : WILD) {
                    due("order(" + m + ", " + v + ")", x.order(m, v), NONE);
                }
            }
        }
        for (int most : new int[] {-1, 2}) {
            for (int i : new int[] {-2, -1, 0, 7}) {
                refused("order(" + most + ", " + i + ")", Edges::small, y -> y.order(most, i), OUTSIDE);
            }
        }
        refusedAll("order(v, -1)", WILD, (y, v) -> y.order(v, -1), OUTSIDE);
        refusedAll("order(v, 0)", WILD, (y, v) -> y.order(v, 0), OUTSIDE);
        refused("order(0, -1)", Edges::small, y -> y.order(0, -1), 1);
        refused("order(0, 1)", Edges::small, y -> y.order(0, 1), NONE);
    }
}
