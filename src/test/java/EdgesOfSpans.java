/** SPANS, BOUNDS, TRUTH: promises 21 and 22. */
public final class EdgesOfSpans extends Edges {
    public static void main(String[] args) {
        testBounds();
        testTruth();
        end("the edges of spans");
    }

    private static void testBounds() {
        test("SPANS: of each letter from its number on so many more", EdgesOfSpans::spansOfLetters);
        test("BOUNDS: of each letter, digit, text the least, greatest end:", EdgesOfSpans::leavesAreRounded);
        test("sums and differences of ends,", EdgesOfSpans::sumsOfEnds);
        test("products and quotients of all four pairs of ends,", EdgesOfSpans::pairsOfEnds);
        test("the least ROUNDED down, the greatest ROUNDED up", EdgesOfSpans::roundedOutwards);
        test("(numbers below 0.000001 become 0.000001, not 0, if that is up;", EdgesOfSpans::tinyUp);
        test("0, if down; below 0 likewise).", EdgesOfSpans::tinyBelow);
        test("GREAT, if an end is,", EdgesOfSpans::endsThatAreGreat);
        test("or a span that is divided by has 0.", EdgesOfSpans::dividedByNought);
        test("BOUNDS: the least end (end = 0), the greatest (1) of the TEXT; GREAT. OUTSIDE.", EdgesOfSpans::bounds);
        test("bounds by spans of what is put in, never within the truth;", EdgesOfSpans::neverWithinTheTruth);
    }

    private static void testTruth() {
        test("TRUTH: the least, the greatest EXACT", EdgesOfSpans::truths);
        test("(in billionths cut down, cut up)", EdgesOfSpans::truthIsCut);
        test("by all whole numbers that letters may be;", EdgesOfSpans::allWholeNumbers);
        test("by all whole numbers that letters may be; GREAT, if one is.", EdgesOfSpans::truthThatIsGreat);
        test("TRUTH: likewise. OUTSIDE.", EdgesOfSpans::truthRefused);
    }

    private static void ends(LostDigits x, long least, long greatest) {
        due("bounds(0) of " + shown(x) + " by " + x.told(2) + " digits", x.bounds(0), least);
        due("bounds(1) of " + shown(x) + " by " + x.told(2) + " digits", x.bounds(1), greatest);
    }

    private static void truth(LostDigits x, long least, long greatest) {
        due("truth(0) of " + shown(x), x.truth(0), least);
        due("truth(1) of " + shown(x), x.truth(1), greatest);
    }

    /** Pairs of a number and a span, for a, b and so on. */
    private static LostDigits spanned(String signs, int... pairs) {
        LostDigits x = with(signs);
        for (int i = 0; i + 1 < pairs.length; i += 2) {
            x.put(i / 2, 0, pairs[i]);
            x.put(i / 2, 1, pairs[i + 1]);
        }
        return x;
    }

    private static LostDigits spanned(int digits, String signs, int... pairs) {
        LostDigits x = spanned(signs, pairs);
        x.set(0, digits);
        return x;
    }

    private static void spansOfLetters() {
        String letters = "abcde";
        for (int letter = 0; letter < 5; letter++) {
            LostDigits x = with(letters.substring(letter, letter + 1));
            ends(x, ONE, ONE);
            truth(x, ONE, ONE);
            for (int span = 0; span <= 5; span++) {
                x.put(letter, 1, span);
                ends(x, ONE, (1 + span) * ONE);
                truth(x, ONE, (1 + span) * ONE);
            }
            // from its number on: 99 to 104, -99 to -94
            x.put(letter, 0, 99);
            ends(x, 99 * ONE, 104 * ONE);
            truth(x, 99 * ONE, 104 * ONE);
            x.put(letter, 0, -99);
            ends(x, -99 * ONE, -94 * ONE);
            truth(x, -99 * ONE, -94 * ONE);
            due("worked(0, 0)", x.worked(0, 0), -99 * ONE);
        }
        refused("put(0, 1, 6)", Edges::small, y -> y.put(0, 1, 6), OUTSIDE);
        refused("put(0, 1, -1)", Edges::small, y -> y.put(0, 1, -1), OUTSIDE);
    }

    private static void leavesAreRounded() {
        ends(spanned(1, "a", 37, 0), 30 * ONE, 40 * ONE);
        ends(spanned(1, "a", 37, 5), 30 * ONE, 50 * ONE);
        ends(spanned(1, "a", 37, 3), 30 * ONE, 40 * ONE);
        ends(spanned(1, "a", 40, 0), 40 * ONE, 40 * ONE);
        ends(spanned(1, "a", -37, 0), -40 * ONE, -30 * ONE);
        ends(spanned(1, "a", -42, 5), -50 * ONE, -30 * ONE);
        ends(spanned(2, "a", 99, 5), 99 * ONE, 110 * ONE);
        ends(spanned(3, "a", 99, 5), 99 * ONE, 104 * ONE);
        ends(spanned(1, "a", -3, 5), -3 * ONE, 2 * ONE);
        for (int digit = 0; digit <= 9; digit++) {
            ends(spanned(1, "" + digit), digit * ONE, digit * ONE);
        }
        // the WAY does not matter
        for (int way = 0; way < 4; way++) {
            LostDigits x = spanned(1, "a", 37, 5);
            x.set(1, way);
            ends(x, 30 * ONE, 50 * ONE);
        }
    }

    private static void sumsOfEnds() {
        ends(spanned("+ab", 3, 2, -7, 4), -4 * ONE, 2 * ONE);
        ends(spanned("-ab", 3, 2, -7, 4), 6 * ONE, 12 * ONE);
        ends(spanned("-ab", -7, 4, 3, 2), -12 * ONE, -6 * ONE);
        // a letter that stands twice has its ends twice
        ends(spanned("-aa", 3, 2), -2 * ONE, 2 * ONE);
        truth(spanned("-aa", 3, 2), 0, 0);
        ends(spanned("-aa", 3, 0), 0, 0);
        ends(spanned("+aa", -1, 2), -2 * ONE, 2 * ONE);
    }

    /** Of 4 digits nothing is rounded here, so the ends are just the least, the greatest of the pairs. */
    private static void pairsOfEnds() {
        for (int a = -7; a <= 3; a += 2) {
            for (int b = -6; b <= 2; b += 2) {
                LostDigits x = spanned(4, "*ab", a, 5, b, 4);
                long[] all = {a * b, a * (b + 4), (a + 5) * b, (a + 5) * (b + 4)};
                ends(x, Math.min(Math.min(all[0], all[1]), Math.min(all[2], all[3])) * ONE,
                    Math.max(Math.max(all[0], all[1]), Math.max(all[2], all[3])) * ONE);
            }
        }
        ends(spanned("/ab", 4, 4, 1, 1), 2 * ONE, 8 * ONE);
        ends(spanned("/ab", 4, 4, -2, 1), -8 * ONE, -2 * ONE);
        ends(spanned("/ab", -8, 4, 1, 1), -8 * ONE, -2 * ONE);
        ends(spanned("/ab", -8, 4, -2, 1), 2 * ONE, 8 * ONE);
        ends(spanned("/ab", -4, 5, 1, 1), -4 * ONE, ONE);
        ends(spanned("/ab", -4, 5, -2, 1), -ONE, 4 * ONE);
        ends(spanned("/ab", 0, 4, 1, 1), 0, 4 * ONE);
        // a letter by itself: each of its ends by each
        ends(spanned("/aa", 1, 1), 500000000L, 2 * ONE);
        ends(spanned("*aa", -3, 5), -6 * ONE, 9 * ONE);
    }

    private static void roundedOutwards() {
        ends(spanned("/1a", 3, 0), 333000000L, 334000000L);
        ends(spanned("/1a", -3, 0), -334000000L, -333000000L);
        ends(spanned(1, "/1a", 3, 0), 300000000L, 400000000L);
        ends(spanned(4, "/1a", 3, 0), 333300000L, 333400000L);
        ends(spanned("*aa", 99, 5), 9800 * ONE, 10900 * ONE);
        ends(spanned("*aa", 99, 0), 9800 * ONE, 9810 * ONE);
        ends(spanned(4, "*aa", 99, 0), 9801 * ONE, 9801 * ONE);
        ends(spanned(1, "+ab", 99, 0, 99, 0), 100 * ONE, 200 * ONE);
        // however near: 1000 and 1 by 9 is 1000 to 1010
        ends(spanned("+*aa/1b", 50, 0, 9, 0), 2500 * ONE, 2510 * ONE);
        ends(spanned("-*aa/1b", 50, 0, 9, 0), 2490 * ONE, 2500 * ONE);
    }

    private static void tinyUp() {
        for (int digits = 1; digits <= 4; digits++) {
            // 1 by 1000000 is not below 0.000001, 9 by 10000000 is, though it has but one digit
            ends(spanned(digits, "/1*****aaaaaa", 10, 0), 1000, 1000);
            ends(spanned(digits, "//9*bc**bca", 10, 0, 20, 0, 50, 0), 0, 1000);
            ends(spanned(digits, "//1*bc**bca", 10, 0, 20, 0, 50, 0), 0, 1000);
            // 1 by 50 to the 5th, 3 billionths
            ends(spanned(digits, "//1*aa**aaa", 50, 0), 0, 1000);
        }
        ends(spanned("//1**aaa**aaa", 99, 0), 0, 1000);
        // ROUNDED by WAY 2 it is 0 all the same
        LostDigits x = spanned("//9*bc**bca", 10, 0, 20, 0, 50, 0);
        x.set(1, 2);
        due("worked(0, 0)", x.worked(0, 0), 0);
        ends(x, 0, 1000);
        // 0 itself is 0
        ends(spanned("/0***aaa9", 50, 0), 0, 0);
        ends(spanned("*0/1***aaa9", 50, 0), 0, 0);
    }

    private static void tinyBelow() {
        for (int digits = 1; digits <= 4; digits++) {
            ends(spanned(digits, "/b*****aaaaaa", 10, 0, -1, 0), -1000, -1000);
            ends(spanned(digits, "//d*bc**bca", 10, 0, 20, 0, 50, 0, -9, 0), -1000, 0);
            ends(spanned(digits, "//d*bc**bca", 10, 0, 20, 0, 50, 0, -1, 0), -1000, 0);
            // from below 0 to above
            ends(spanned(digits, "//d*bc**bca", 10, 0, 20, 0, 50, 0, -1, 2), -1000, 1000);
            ends(spanned(digits, "//d*bc**bca", 10, 0, 20, 0, 50, 0, 0, 1), 0, 1000);
            ends(spanned(digits, "//d*bc**bca", 10, 0, 20, 0, 50, 0, -1, 1), -1000, 0);
        }
        ends(spanned("//b**aaa**aaa", 99, 0, -1, 0), -1000, 0);
    }

    private static void endsThatAreGreat() {
        ends(spanned(MOST, 74, 0, 90, 0, 50, 0, 30, 0), 9990000 * ONE, 9990000 * ONE);
        ends(spanned(MOST, -74, 0, 90, 0, 50, 0, 30, 0), -9990000 * ONE, -9990000 * ONE);
        // 9990001 and -9990001: only one end is GREAT, and so are BOUNDS
        ends(spanned("+" + MOST + "1", 74, 0, 90, 0, 50, 0, 30, 0), GREAT, GREAT);
        ends(spanned("-" + MOST + "1", -74, 0, 90, 0, 50, 0, 30, 0), GREAT, GREAT);
        ends(spanned("-" + MOST + "1", 74, 0, 90, 0, 50, 0, 30, 0), 9980000 * ONE, 9990000 * ONE);
        ends(spanned("+" + MOST + "1", -74, 0, 90, 0, 50, 0, 30, 0), -9990000 * ONE, -9980000 * ONE);
        ends(spanned(MOST, 74, 0, 90, 0, 50, 0, 29, 1), 9650000 * ONE, 9990000 * ONE);
        ends(spanned(MOST, 74, 0, 90, 0, 50, 0, 30, 1), GREAT, GREAT);
        ends(spanned(MOST, -74, 0, 90, 0, 50, 0, 30, 1), GREAT, GREAT);
        // from -9990000 to 9990000; then one end more
        ends(spanned("*" + MOST + "e", 74, 0, 90, 0, 50, 0, 30, 0, -1, 2), -9990000 * ONE, 9990000 * ONE);
        ends(spanned("*" + MOST + "e", 74, 0, 90, 0, 50, 0, 30, 0, -1, 3), GREAT, GREAT);
        ends(spanned("*" + MOST + "e", 74, 0, 90, 0, 50, 0, 30, 0, -2, 3), GREAT, GREAT);
        // an end of a part
        ends(spanned("*0+" + MOST + "1", 74, 0, 90, 0, 50, 0, 30, 0), GREAT, GREAT);
        ends(spanned("-1+" + MOST + "1", 74, 0, 90, 0, 50, 0, 30, 0), GREAT, GREAT);
        ends(spanned("/1+" + MOST + "1", 74, 0, 90, 0, 50, 0, 30, 0), GREAT, GREAT);
        ends(spanned("/+" + MOST + "11", 74, 0, 90, 0, 50, 0, 30, 0), GREAT, GREAT);
    }

    private static void dividedByNought() {
        ends(spanned("/1a", 0, 0), GREAT, GREAT);
        ends(spanned("/0a", 0, 0), GREAT, GREAT);
        for (int span = 0; span <= 5; span++) {
            // its greatest end is 0, its least, neither
            ends(spanned("/1a", -span, span), GREAT, GREAT);
            ends(spanned("/1a", 0, span), GREAT, GREAT);
            if (span >= 2) {
                ends(spanned("/1a", -1, span), GREAT, GREAT);
                ends(spanned("/1a", 1 - span, span), GREAT, GREAT);
            }
        }
        ends(spanned("/1a", 1, 4), 200000000L, ONE);
        ends(spanned("/1a", -5, 4), -ONE, -200000000L);
        ends(spanned("/1a", 1, 0), ONE, ONE);
        ends(spanned("/1a", -1, 0), -ONE, -ONE);
        // a span that has 0 by BOUNDS alone
        ends(spanned("/1-aa", 3, 1), GREAT, GREAT);
        ends(spanned("/1+1-aa", 3, 1), GREAT, GREAT);
        truth(spanned("/1+1-aa", 3, 1), ONE, ONE);
        ends(spanned("/1+2-aa", 3, 1), 333000000L, ONE);
        // 1 by 1125000 down is 0; 1 by 1000000 is not
        ends(spanned("/1/1***aaa9", 50, 0), GREAT, GREAT);
        truth(spanned("/1/1***aaa9", 50, 0), 1125000 * ONE, 1125000 * ONE);
        ends(spanned("/1/1***aaa8", 50, 0), 1000000 * ONE, 1000000 * ONE);
        // in a part
        ends(spanned("*0/1a", 0, 3), GREAT, GREAT);
        ends(spanned("+b/1a", -1, 3), GREAT, GREAT);
    }

    private static void bounds() {
        LostDigits x = spanned("+ab", 3, 2, -7, 4);
        due("bounds(0)", x.bounds(0), -4 * ONE);
        due("bounds(1)", x.bounds(1), 2 * ONE);
        for (int end : new int[] {-1, 2, 3}) {
            refused("bounds(" + end + ")", Edges::small, y -> y.bounds(end), LOST - 2);
            refused("bounds(" + end + ") of GREAT", Edges::great, y -> y.bounds(end), LOST - 2);
        }
        refusedAll("bounds(v)", WILD, (y, v) -> y.bounds(v), LOST - 2);
        due("bounds(0)", great().bounds(0), GREAT);
        due("bounds(1)", great().bounds(1), GREAT);
        refused("bounds(1)", Edges::rich, y -> y.bounds(1), rich().bounds(1));
        // what was asked before does not matter
        x.put(0, 1, 3);
        due("bounds(1)", x.bounds(1), 3 * ONE);
        x.put(0, 0, 4);
        due("bounds(1)", x.bounds(1), 4 * ONE);
    }

    private static void neverWithinTheTruth() {
        String[] all = {"/ab", "-*aa*bb", "/a+bc", "*-a1-a3", "//abc", "-/ab/ba", "*/abc", "+/1a/1b", "/*ab+bc",
            "/1***aaa9", "-+aa-bc", "*+ab-ca", "/-ab*cc"};
        for (String signs : all) {
            for (int digits = 1; digits <= 4; digits++) {
                for (int step = 0; step < 6; step++) {
                    LostDigits x = spanned(digits, signs, 7 * step - 12, step, 31 - 11 * step, 5 - step, 5 * step - 9,
                        2);
                    boolean isGreat = x.bounds(0) == GREAT || x.truth(0) == GREAT;
                    due("bounds(0) of " + signs, isGreat || x.bounds(0) <= x.truth(0) ? 1 : 0, 1);
                    due("bounds(1) of " + signs, isGreat || x.bounds(1) >= x.truth(1) ? 1 : 0, 1);
                    // where a TRUTH is GREAT, so are BOUNDS
                    due("bounds(0) of " + signs, x.truth(0) != GREAT || x.bounds(0) == GREAT ? 1 : 0, 1);
                }
            }
        }
    }

    private static void truths() {
        truth(spanned("+ab", 3, 2, -7, 4), -4 * ONE, 2 * ONE);
        truth(spanned("-ab", 3, 2, -7, 4), 6 * ONE, 12 * ONE);
        truth(spanned("*ab", -3, 5, -7, 4), -14 * ONE, 21 * ONE);
        truth(spanned("/ab", 4, 4, -2, 1), -8 * ONE, -2 * ONE);
        // neither DIGITS nor WAY matter
        for (int digits = 1; digits <= 4; digits++) {
            LostDigits x = spanned(digits, "*aa", 98, 1);
            x.set(1, digits - 1);
            truth(x, 9604 * ONE, 9801 * ONE);
        }
    }

    private static void truthIsCut() {
        truth(spanned("/1a", 3, 0), 333333333L, 333333334L);
        truth(spanned("/1a", -3, 0), -333333334L, -333333333L);
        truth(spanned("/a3", -1, 2), -333333334L, 333333334L);
        // nothing is to be cut
        truth(spanned("/1a", 8, 0), 125000000L, 125000000L);
        truth(spanned("/1a", -8, 0), -125000000L, -125000000L);
        // less than a billionth
        truth(spanned("/1****aaaaa", 99, 0), 0, 1);
        truth(spanned("/1****aaaaa", -99, 0), -1, 0);
        truth(spanned("/b****aaaaa", 99, 0, -1, 2), -1, 1);
        truth(spanned("/b****aaaaa", 99, 0, 0, 0), 0, 0);
    }

    private static void allWholeNumbers() {
        // 3, 0, -1, 0, 3: the least one is not at an end
        truth(spanned("*-a1-a3", 0, 4), -ONE, 3 * ONE);
        truth(spanned("*-a1-a3", 0, 1), 0, 3 * ONE);
        truth(spanned("*-a1-a3", 0, 2), -ONE, 3 * ONE);
        truth(spanned("-0*-a1-a3", 0, 4), -3 * ONE, ONE);
        truth(spanned("*aa", -3, 5), 0, 9 * ONE);
        // whole numbers alone: between 1 and 2 it would be less
        truth(spanned("*-a1-a2", 0, 3), 0, 2 * ONE);
        // all five letters
        LostDigits x = spanned("+a+b+c+de", 1, 5, 2, 5, 3, 5, 4, 5, 5, 5);
        truth(x, 15 * ONE, 40 * ONE);
        for (int letter = 0; letter < 5; letter++) {
            x.put(letter, 1, 0);
            truth(x, 15 * ONE, (35 - 5 * letter) * ONE);
        }
        // a letter that is not in the TEXT does not matter
        truth(spanned("/1a", 2, 0, -2, 5, -2, 5, 0, 5, 0, 5), 500000000L, 500000000L);
        truth(spanned("7", -2, 5, -2, 5), 7 * ONE, 7 * ONE);
    }

    private static void truthThatIsGreat() {
        truth(spanned("/1a", 0, 0), GREAT, GREAT);
        truth(spanned("/1a", 1, 5), 166666666L, ONE);
        truth(spanned("/1a", -5, 4), -ONE, -200000000L);
        truth(spanned("/1a", -5, 5), GREAT, GREAT);
        truth(spanned("/1a", 0, 5), GREAT, GREAT);
        // 0 is neither the first nor the last of them
        truth(spanned("/1-a2", 0, 4), GREAT, GREAT);
        truth(spanned("+1/1-a2", 0, 4), GREAT, GREAT);
        truth(spanned("+1/1-a2", 3, 5), 1166666666L, 2 * ONE);
        truth(spanned("/1-a2", 0, 1), -ONE, -500000000L);
        truth(spanned("/1-a2", 3, 5), 166666666L, ONE);
        truth(spanned("/1-ab", 1, 3, 5, 2), -ONE, -166666666L);
        truth(spanned("/1-ab", 1, 4, 5, 2), GREAT, GREAT);
        // 9999999 and 10000000, on each side
        truth(spanned("-***aaab1", 50, 0, 80, 0), 9999999 * ONE, 9999999 * ONE);
        truth(spanned("+***aaab1", -50, 0, 80, 0), -9999999 * ONE, -9999999 * ONE);
        truth(spanned("***aaab", 50, 0, 79, 0), 9875000 * ONE, 9875000 * ONE);
        truth(spanned("***aaab", 50, 0, 79, 1), GREAT, GREAT);
        truth(spanned("***aaab", -50, 0, 79, 1), GREAT, GREAT);
        truth(spanned("***aaab", 50, 0, 80, 0), GREAT, GREAT);
        truth(spanned("-***aaab/1c", 50, 0, 80, 0, 99, 0), 9999999989898989L, 9999999989898990L);
        truth(spanned("+***aaab/1c", -50, 0, 80, 0, 99, 0), -9999999989898990L, -9999999989898989L);
        // only the middle one of three is GREAT: 0, 1 by 0, 0
        truth(spanned("/0a", -1, 2), GREAT, GREAT);
    }

    private static void truthRefused() {
        for (int end : new int[] {-1, 2, 3}) {
            refused("truth(" + end + ")", Edges::small, y -> y.truth(end), LOST - 2);
            refused("truth(" + end + ") of GREAT", Edges::great, y -> y.truth(end), LOST - 2);
        }
        refusedAll("truth(v)", WILD, (y, v) -> y.truth(v), LOST - 2);
        truth(great(), GREAT, GREAT);
        refused("truth(1)", Edges::rich, y -> y.truth(1), rich().truth(1));
        // what was found before is not told again when it is another
        LostDigits x = spanned("+ab", 3, 2, -7, 4);
        truth(x, -4 * ONE, 2 * ONE);
        x.put(0, 1, 3);
        truth(x, -4 * ONE, 3 * ONE);
        x.put(0, 0, 4);
        truth(x, -3 * ONE, 4 * ONE);
        text(x, "-ab");
        truth(x, 7 * ONE, 14 * ONE);
        due("change(0, 0)", x.change(0, 0), NO);
        x.image(0);
        text(x, "a");
        truth(x, 4 * ONE, 7 * ONE);
        x.restore(0);
        truth(x, 7 * ONE, 14 * ONE);
    }
}
