/** WORKED, EXACT, SLIP, LOSS, WORST, NEEDS: promises 10 to 14. */
public final class EdgesOfWorked extends Edges {
    /** Letters by which MOST is 9990000, and by which it is -9990000. */
    private static final int[] ABOVE = {74, 90, 50, 30, 99};
    private static final int[] BELOW = {-74, 90, 50, 30, 99};

    public static void main(String[] args) {
        testWorked();
        testExact();
        testSlips();
        testLoss();
        testNeeds();
        end("the edges of what is worked");
    }

    private static void testWorked() {
        test("A STEP is a sign of the TEXT (numbered by places).", EdgesOfWorked::steps);
        test("WORKED: letters and digits are ROUNDED;", EdgesOfWorked::leaves);
        test("then each sum, difference, product, quotient of what both texts came to is ROUNDED.",
            EdgesOfWorked::operators);
        test("What has a GREAT part is GREAT,", EdgesOfWorked::greatParts);
        test("and so is a quotient by 0.", EdgesOfWorked::quotientsByNought);
        test("What a STEP is WORKED to (what = 0),", EdgesOfWorked::workedNearTheEdges);
        test("EXACT in billionths (1), SLIP (2; GREAT, if it is WORKED to that). UNKNOWN, OUTSIDE.",
            EdgesOfWorked::workedRefused);
    }

    private static void testExact() {
        test("EXACT: without rounding, as a fraction in lowest terms (the lower number above 0);",
            EdgesOfWorked::fractions);
        test("GREAT, if it divides by 0.", EdgesOfWorked::exactByNought);
        test("In billionths it is cut towards 0", EdgesOfWorked::exactIsCut);
        test("(GREAT from 10000000 on, and to -10000000).", EdgesOfWorked::exactFarOut);
        test("EXACT of the TEXT as a fraction. OUTSIDE (LOST less 2); GREAT.", EdgesOfWorked::exactRefused);
    }

    private static void testSlips() {
        test("what it was WORKED to less what it would be of the same two DECIMALS without rounding",
            EdgesOfWorked::slipsOfOperators);
        test("(that in billionths cut towards 0);", EdgesOfWorked::slipsAreCut);
        test("of letters and digits likewise.", EdgesOfWorked::slipsOfLeaves);
        test("SLIP (2; GREAT, if it is WORKED to that).", EdgesOfWorked::slipsThatAreGreat);
    }

    private static void testLoss() {
        test("LOSS: WORKED less EXACT in billionths.", EdgesOfWorked::losses);
        test("LOSS of the TEXT; GREAT, if one is.", EdgesOfWorked::lossesThatAreGreat);
        test("WORST: the STEP with the greatest SLIP, below 0 or above,", EdgesOfWorked::worstBelowOrAbove);
        test("below 0 or above, the first such.", EdgesOfWorked::worstIsTheFirst);
        test("WORST; NONE: no SLIP.", EdgesOfWorked::worstOfNone);
        test("STATE: the TEXT is GREAT.", EdgesOfWorked::worstOfGreat);
    }

    private static void testNeeds() {
        test("NEEDS: the fewest DIGITS (1 to 4)", EdgesOfWorked::fewestDigits);
        test("by which LOSS is no more than a trust in billionths, below 0 or above.", EdgesOfWorked::trusts);
        test("NEEDS; NONE.", EdgesOfWorked::needsNone);
        test("OUTSIDE: a trust below 0.", EdgesOfWorked::trustBelowNought);
    }

    private static void worked(LostDigits x, int step, long came, long exact, long slip) {
        String where = " of " + shown(x) + " by " + x.told(2) + " digits, way " + x.told(3);
        due("worked(" + step + ", 0)" + where, x.worked(step, 0), came);
        due("worked(" + step + ", 1)" + where, x.worked(step, 1), exact);
        due("worked(" + step + ", 2)" + where, x.worked(step, 2), slip);
    }

    private static void steps() {
        LostDigits x = with("-*2a+3b", 7, 8);
        long[] wants = {3, 14, 2, 7, 11, 3, 8};
        for (int i = 0; i < 7; i++) {
            worked(x, i, wants[i] * ONE, wants[i] * ONE, 0);
        }
        x = with("+a+b+c+d+e+12", 3, 4, 5, 6, 7);
        worked(x, 0, 28 * ONE, 28 * ONE, 0);
        worked(x, 10, 3 * ONE, 3 * ONE, 0);
        worked(x, 12, 2 * ONE, 2 * ONE, 0);
        due("worked(13, 0)", x.worked(13, 0), LOST - 1);
    }

    private static void leaves() {
        int[] numbers = {94, 95, 96, 99, 91};
        int[][] wants = {{90, 100, 100, 100, 90}, {90, 90, 90, 90, 90}, {100, 100, 100, 100, 100}};
        for (int way = 0; way < 3; way++) {
            for (int i = 0; i < numbers.length; i++) {
                int came = wants[way][i];
                worked(with(1, way, "a", numbers[i]), 0, came * ONE, numbers[i] * ONE, (came - numbers[i]) * ONE);
                // below 0 down is what up is above 0
                int mirrored = way == 2 ? 3 : way;
                worked(with(1, mirrored, "a", -numbers[i]), 0, -came * ONE, -numbers[i] * ONE,
                    (numbers[i] - came) * ONE);
            }
        }
        worked(with(1, 2, "a", -99), 0, -90 * ONE, -99 * ONE, 9 * ONE);
        worked(with(1, 3, "a", 99), 0, 90 * ONE, 99 * ONE, -9 * ONE);
        worked(with(2, 0, "a", 99), 0, 99 * ONE, 99 * ONE, 0);
        worked(with(2, 0, "a", -99), 0, -99 * ONE, -99 * ONE, 0);
        worked(with(1, 0, "a", 0), 0, 0, 0, 0);
        for (int digit = 0; digit <= 9; digit++) {
            worked(with(1, digit % 4, "" + digit), 0, digit * ONE, digit * ONE, 0);
        }
    }

    private static void operators() {
        // of what both came to: 10 and 10
        worked(with(1, 0, "+ab", 14, 14), 0, 20 * ONE, 28 * ONE, 0);
        worked(with(1, 0, "*ab", 14, 14), 0, 100 * ONE, 196 * ONE, 0);
        worked(with(1, 0, "/ab", 14, 11), 0, ONE, 1272727272L, 0);
        // 100 less 90
        worked(with(1, 0, "-ab", 95, 94), 0, 10 * ONE, ONE, 0);
        // and then ROUNDED again
        worked(with(1, 0, "+ab", 90, 50), 0, 100 * ONE, 140 * ONE, -40 * ONE);
        worked(with(1, 0, "-ab", -60, 90), 0, -200 * ONE, -150 * ONE, -50 * ONE);
        worked(with(1, 0, "*ab", 30, 50), 0, 2000 * ONE, 1500 * ONE, 500 * ONE);
        worked(with(1, 0, "/ab", 2, 3), 0, 700000000L, 666666666L, 33333334L);
        worked(with(1, 1, "-ab", -60, 90), 0, -100 * ONE, -150 * ONE, 50 * ONE);
        worked(with(1, 2, "*ab", 30, 50), 0, 2000 * ONE, 1500 * ONE, 500 * ONE);
        worked(with(1, 3, "*ab", 30, 50), 0, 1000 * ONE, 1500 * ONE, -500 * ONE);
    }

    private static void greatParts() {
        for (String signs : new String[] {"+/a01", "+1/a0", "-/a0/a0", "*0/a0", "*/a00", "/0/a0", "//a01", "/1/1/a0"}) {
            due("worked(0, 0) of " + signs, with(signs).worked(0, 0), GREAT);
        }
        LostDigits x = with("*0+a/b0", 5, 6);
        worked(x, 0, GREAT, GREAT, GREAT);
        worked(x, 1, 0, 0, 0);
        worked(x, 2, GREAT, GREAT, GREAT);
        worked(x, 3, 5 * ONE, 5 * ONE, 0);
        worked(x, 4, GREAT, GREAT, GREAT);
        worked(x, 5, 6 * ONE, 6 * ONE, 0);
        worked(x, 6, 0, 0, 0);
        // too great on the way, though without rounding it is 0, 9999999
        x = with("*0***aaab", 50, 80);
        worked(x, 0, GREAT, 0, GREAT);
        worked(x, 2, GREAT, GREAT, GREAT);
        worked(with("-***aaab1", 50, 80), 0, GREAT, 9999999 * ONE, GREAT);
    }

    private static void quotientsByNought() {
        for (String signs : new String[] {"/a0", "/00", "/a-bb", "/a*0b", "/-aa0", "/a/0b"}) {
            LostDigits x = with(signs, 5, 6);
            due("worked(0, 0) of " + signs, x.worked(0, 0), GREAT);
        }
        worked(with("/0a", 5), 0, 0, 0, 0);
        worked(with("/a1", 5), 0, 5 * ONE, 5 * ONE, 0);
        LostDigits x = with("/ab", 5, 0);
        worked(x, 0, GREAT, GREAT, GREAT);
        x.put(1, 0, 1);
        worked(x, 0, 5 * ONE, 5 * ONE, 0);
        x.put(1, 0, -1);
        worked(x, 0, -5 * ONE, -5 * ONE, 0);
        // 36 less 35 came to 40 less 40
        worked(with(1, 0, "/1-ab", 36, 35), 0, GREAT, ONE, GREAT);
        // 1 by 1125000 came to 0
        worked(with(4, 0, "/1/1***aaa9", 50), 0, GREAT, 1125000 * ONE, GREAT);
        worked(with(4, 0, "/1/1***aaa8", 50), 0, 1000000 * ONE, 1000000 * ONE, 0);
    }

    private static void workedNearTheEdges() {
        worked(with(MOST, ABOVE), 0, 9990000 * ONE, 9990000 * ONE, 0);
        worked(with(MOST, BELOW), 0, -9990000 * ONE, -9990000 * ONE, 0);
        // 5000 more is as near to 10000000; 83 by 30 by 2 more is nearer to 9990000
        worked(with("+" + MOST + "**cc2", ABOVE), 0, GREAT, 9995000 * ONE, GREAT);
        worked(with("-" + MOST + "**cc2", BELOW), 0, GREAT, -9995000 * ONE, GREAT);
        worked(with("+" + MOST + "**ed2", 74, 90, 50, 30, 83), 0, 9990000 * ONE, 9994980 * ONE, -4980 * ONE);
        worked(with("-" + MOST + "**ed2", -74, 90, 50, 30, 83), 0, -9990000 * ONE, -9994980 * ONE, 4980 * ONE);
        long[] above = {GREAT, 9990000 * ONE, GREAT, 9990000 * ONE};
        long[] below = {GREAT, -9990000 * ONE, -9990000 * ONE, GREAT};
        for (int way = 0; way < 4; way++) {
            worked(with(3, way, "+" + MOST + "**cc2", ABOVE), 0, above[way], 9995000 * ONE,
                above[way] == GREAT ? GREAT : -5000 * ONE);
            worked(with(3, way, "-" + MOST + "**cc2", BELOW), 0, below[way], -9995000 * ONE,
                below[way] == GREAT ? GREAT : 5000 * ONE);
            // 1 by 1000000 and 1 by 1125000
            worked(with(4, way, "/1***aaa8", 50), 0, 1000, 1000, 0);
            worked(with(4, way, "/b***aaa8", 50, -1), 0, -1000, -1000, 0);
            worked(with(4, way, "/1***aaa9", 50), 0, 0, 888, -888);
            worked(with(4, way, "/b***aaa9", 50, -1), 0, 0, -888, 888);
        }
    }

    private static void workedRefused() {
        LostDigits x = full();
        for (int step = 0; step < 13; step++) {
            for (int what = 0; what < 3; what++) {
                due("worked(" + step + ", " + what + ") is told", x.worked(step, what) > LOST ? 1 : 0, 1);
            }
        }
        due("worked(13, 0)", x.worked(13, 0), LOST - 1);
        for (int what = 0; what < 3; what++) {
            int w = what;
            refused("worked(3, " + w + ")", Edges::small, y -> y.worked(3, w), LOST - 1);
            refused("worked(-1, " + w + ")", Edges::small, y -> y.worked(-1, w), LOST - 1);
            refusedAll("worked(v, " + w + ")", WILD, (y, v) -> y.worked(v, w), LOST - 1);
        }
        for (int step = 0; step < 3; step++) {
            int s = step;
            refused("worked(" + s + ", 3)", Edges::small, y -> y.worked(s, 3), LOST - 2);
            refused("worked(" + s + ", -1)", Edges::small, y -> y.worked(s, -1), LOST - 2);
            refusedAll("worked(" + s + ", v)", WILD, (y, v) -> y.worked(s, v), LOST - 2);
        }
    }

    private static void exact(LostDigits x, long upper, long lower) {
        due("exact(0) of " + shown(x), x.exact(0), upper);
        due("exact(1) of " + shown(x), x.exact(1), lower);
    }

    private static void fractions() {
        exact(with("/ab", 6, 4), 3, 2);
        exact(with("/ab", -6, 4), -3, 2);
        exact(with("/ab", 6, -4), -3, 2);
        exact(with("/ab", -6, -4), 3, 2);
        exact(with("/ab", 0, 4), 0, 1);
        exact(with("/ab", 0, -4), 0, 1);
        exact(with("/ab", 99, 99), 1, 1);
        exact(with("-/ab/ab", 2, 3), 0, 1);
        exact(with("+/1a/1b", 6, 3), 1, 2);
        exact(with("*/ab/ba", 6, 4), 1, 1);
        exact(with("/a/b3", 2, -5), -6, 5);
        exact(with("//b3a", -2, 5), -5, 6);
        // DIGITS and WAY do not matter
        exact(with(1, 2, "+/1a/1b", 97, 89), 186, 8633);
        exact(with("******aaaaaaa", 99), 93206534790699L, 1);
        exact(with("******aaaaaaa", -99), -93206534790699L, 1);
        exact(with("//////aaaaaaa", 99), 1, 9509900499L);
        exact(with("//////baaaaaa", 99, -1), -1, 941480149401L);
    }

    private static void exactByNought() {
        String[] great = {"/a0", "/00", "/0-aa", "*0/a0", "+a/b0", "-/a0/a0", "/1/a0", "//a01", "/a/0b", "/0/0b"};
        for (String signs : great) {
            LostDigits x = with(signs, 5, 6);
            exact(x, GREAT, GREAT);
            due("worked(0, 1) of " + signs, x.worked(0, 1), GREAT);
        }
        exact(with("/0a", 5), 0, 1);
        // what it was before does not matter
        LostDigits y = with("+1/ab", 5, 2);
        exact(y, 7, 2);
        y.put(1, 0, 0);
        exact(y, GREAT, GREAT);
        worked(y, 0, GREAT, GREAT, GREAT);
        y.put(1, 0, 2);
        exact(y, 7, 2);
        // only what it divides by without rounding counts: 40 less 40, 40 and 40 less 70
        exact(with(1, 0, "/1-ab", 36, 35), 1, 1);
        LostDigits x = with(1, 0, "/1-+aa-bc", 36, 74, 2);
        worked(x, 0, 100000000L, GREAT, 0);
        exact(x, GREAT, GREAT);
    }

    private static void exactIsCut() {
        due("2 by 3", with("/ab", 2, 3).worked(0, 1), 666666666L);
        due("-2 by 3", with("/ab", -2, 3).worked(0, 1), -666666666L);
        due("1 by 8", with("/ab", 1, 8).worked(0, 1), 125000000L);
        // less than a billionth
        LostDigits x = with("/1****aaaaa", 99);
        due("worked(0, 1)", x.worked(0, 1), 0);
        exact(x, 1, 9509900499L);
        x.put(0, 0, -99);
        due("worked(0, 1)", x.worked(0, 1), 0);
        exact(x, -1, 9509900499L);
        // 1 by 99 to the 4th is 10 billionths
        due("10 billionths", with("/1***aaaa", 99).worked(0, 1), 10);
        due("-10 billionths", with("/b***aaaa", 99, -1).worked(0, 1), -10);
    }

    private static void exactFarOut() {
        exactBoth("***aaab", GREAT, 10000000, 1);
        exactBoth("-***aaab1", 9999999 * ONE, 9999999, 1);
        exactBoth("+***aaab1", GREAT, 10000001, 1);
        exactBoth("-***aaab/1c", 9999999989898989L, 989999999, 99);
        exactBoth("+***aaab/1c", GREAT, 990000001, 99);
        due("-10000000", with("***baac", 50, -50, 80).worked(0, 1), GREAT);
    }

    /** Of a = 50, b = 80, c = 99, and what is as far below 0. */
    private static void exactBoth(String signs, long cut, long upper, long lower) {
        LostDigits x = with(signs, 50, 80, 99);
        due("worked(0, 1) of " + signs, x.worked(0, 1), cut);
        exact(x, upper, lower);
        x.put(0, 0, -50);
        x.put(2, 0, -99);
        String mirrored = signs.endsWith("1") ? (signs.charAt(0) == '-' ? '+' : '-') + signs.substring(1) : signs;
        text(x, mirrored);
        due("worked(0, 1) of " + mirrored + " below 0", x.worked(0, 1), cut == GREAT ? GREAT : -cut);
        exact(x, -upper, lower);
    }

    private static void exactRefused() {
        due("exact(0)", small().exact(0), 4);
        due("exact(1)", small().exact(1), 1);
        for (int part : new int[] {-1, 2, 3}) {
            refused("exact(" + part + ")", Edges::small, y -> y.exact(part), LOST - 2);
            refused("exact(" + part + ") of GREAT", Edges::great, y -> y.exact(part), LOST - 2);
        }
        refusedAll("exact(v)", WILD, (y, v) -> y.exact(v), LOST - 2);
        exact(great(), GREAT, GREAT);
    }

    private static void slip(LostDigits x, int step, long want) {
        due("worked(" + step + ", 2) of " + shown(x), x.worked(step, 2), want);
    }

    private static void slipsOfOperators() {
        // 2 digits: 99 by 99 is 9801, so 9800; 9800 and 55 is 9855, so 9900
        LostDigits x = with(2, 0, "+*aab", 99, 55);
        slip(x, 1, -ONE);
        slip(x, 0, 45 * ONE);
        due("loss()", x.loss(), 44 * ONE);
        // nothing is lost of what was lost before: 100 by 100
        x = with(1, 0, "*aa", 99);
        slip(x, 0, 0);
        slip(x, 1, ONE);
        due("loss()", x.loss(), 199 * ONE);
        x = with(2, 3, "-*aab", -99, -1);
        // 9801 down is 9800, less -1 is 9801
        slip(x, 1, -ONE);
        slip(x, 0, -ONE);
    }

    private static void slipsAreCut() {
        slip(with("/ab", 2, 3), 0, 333334L);
        slip(with("/ab", -2, 3), 0, -333334L);
        slip(with(3, 1, "/ab", 2, 3), 0, -666666L);
        slip(with(3, 1, "/ab", -2, 3), 0, 666666L);
        // 0.0000013717421: told to 1372, cut to 1371
        slip(with(4, 0, "/1*a*aa", 90), 0, 1);
        slip(with(4, 0, "/b*a*aa", 90, -1), 0, -1);
        // 0.01031 by 0.01031 is 0.0001062961: told to 106300, cut to 106296
        slip(with(4, 0, "*/1a/1a", 97), 0, 4);
        slip(with(4, 0, "*/1a/1b", 97, -97), 0, -4);
        // towards 0 it is 0.0103 by 0.0103, 0.00010609
        slip(with(4, 1, "*/1a/1a", 97), 0, -90);
        // and told down to 1371 nothing of whole billionths is lost
        slip(with(4, 1, "/1*a*aa", 90), 0, 0);
        slip(with(4, 1, "/b*a*aa", 90, -1), 0, 0);
    }

    private static void slipsOfLeaves() {
        LostDigits x = with(1, 0, "+ab", 94, -95);
        slip(x, 1, -4 * ONE);
        slip(x, 2, -5 * ONE);
        slip(x, 0, 0);
        text(x, "9");
        slip(x, 0, 0);
        x.set(0, 2);
        text(x, "a");
        slip(x, 0, 0);
    }

    private static void slipsThatAreGreat() {
        LostDigits x = with("+1/a0", 5);
        slip(x, 0, GREAT);
        slip(x, 1, 0);
        slip(x, 2, GREAT);
        slip(x, 3, 0);
        slip(x, 4, 0);
        x = with(MOST, ABOVE);
        slip(x, 0, 0);
        slip(with("+" + MOST + "**cc2", ABOVE), 0, GREAT);
        slip(with("-" + MOST + "**cc2", BELOW), 0, GREAT);
        // EXACT is GREAT there, what it was WORKED to is not
        slip(with(1, 0, "/1-+aa-bc", 36, 74, 2), 0, 0);
    }

    private static void losses() {
        due("loss()", with(1, 0, "a", 95).loss(), 5 * ONE);
        due("loss()", with(1, 0, "a", -95).loss(), -5 * ONE);
        due("loss()", with(1, 0, "a", 94).loss(), -4 * ONE);
        due("loss()", with("a", 94).loss(), 0);
        due("loss()", with("/ab", 2, 3).loss(), 333334L);
        due("loss()", with("/ab", -2, 3).loss(), -333334L);
        due("loss()", with(4, 0, "/1***aaa9", 50).loss(), -888);
        due("loss()", with(4, 0, "/b***aaa9", 50, -1).loss(), 888);
    }

    private static void lossesThatAreGreat() {
        due("both", great().loss(), GREAT);
        due("WORKED alone", with("-***aaab1", 50, 80).loss(), GREAT);
        due("WORKED alone", with(1, 0, "/1-ab", 36, 35).loss(), GREAT);
        due("EXACT alone, by 0", with(1, 0, "/1-+aa-bc", 36, 74, 2).loss(), GREAT);
        // WORKED to 9000000; EXACT 9999999 and 10000000
        due("9999999", with(1, 1, "+" + MOST + "*e+e2", ABOVE).loss(), -999999 * ONE);
        due("-9999999", with(1, 1, "-" + MOST + "*e+e2", BELOW).loss(), 999999 * ONE);
        LostDigits x = with(1, 1, "+" + MOST + "**cc4", ABOVE);
        worked(x, 0, 9000000 * ONE, GREAT, -8000 * ONE);
        due("10000000", x.loss(), GREAT);
        x = with(1, 1, "-" + MOST + "**cc4", BELOW);
        worked(x, 0, -9000000 * ONE, GREAT, 8000 * ONE);
        due("-10000000", x.loss(), GREAT);
        due("9990000", with(MOST, ABOVE).loss(), 0);
        due("-9990000", with(MOST, BELOW).loss(), 0);
    }

    private static void worst(LostDigits x, int want) {
        due("worst() of " + shown(x) + " by " + x.told(2) + " digits", x.worst(), want);
    }

    private static void worstBelowOrAbove() {
        // 36 slips by 4, 46 by 4, 35 by 5, 45 by -5, 44 by -4
        worst(with(1, 0, "+ab", 36, 45), 2);
        worst(with(1, 0, "+ab", 36, 35), 2);
        worst(with(1, 0, "+ab", 45, 36), 1);
        worst(with(1, 0, "+ab", 44, 35), 2);
        worst(with(1, 0, "+ab", -45, 36), 1);
        // 90 and 50 is 140: 40 are lost
        worst(with(1, 0, "+ab", 94, 45), 0);
        worst(with(1, 0, "*0*0*0*0*0*0a", 36), 12);
    }

    private static void worstIsTheFirst() {
        worst(with(1, 0, "+ab", 35, 45), 1);
        worst(with(1, 0, "+ab", 45, 35), 1);
        worst(with(1, 0, "+ab", 36, 44), 1);
        // both products are 1600 that come to 2000
        worst(with(1, 0, "+*aa*aa", 35), 1);
        // 2 by 3 twice
        worst(with("-/ab/ab", 2, 3), 1);
    }

    private static void worstOfNone() {
        worst(fresh(), NONE);
        worst(with(1, 0, "+ab", 40, 50), NONE);
        worst(with("+a+b+c+d+e+12", 3, 4, 5, 6, 7), NONE);
        worst(with(4, 0, "*aa", 99), NONE);
        worst(with("*aa", 99), 0);
        // less than a billionth is lost, and that is no SLIP
        worst(with(4, 1, "/1*a*aa", 90), NONE);
        worst(with(4, 0, "/1*a*aa", 90), 0);
        // a longer TEXT has left nothing, neither behind its last sign nor farther on
        LostDigits y = with(1, 0, "+ab", 36, 44);
        worst(y, 1);
        text(y, "*0*0*0*0*0*0a");
        worst(y, 12);
        text(y, "7");
        worst(y, NONE);
        text(y, "+7*0a");
        worst(y, 4);
        text(y, "+1+1+11");
        worst(y, NONE);
        // both slip, and the LOSS is 0
        LostDigits x = with(1, 0, "+ab", 36, 44);
        due("loss()", x.loss(), 0);
        worst(x, 1);
    }

    private static void worstOfGreat() {
        worst(great(), STATE);
        worst(with("+1/a0"), STATE);
        worst(with("*0/a0"), STATE);
        worst(with("/a-bb"), STATE);
        worst(with("***aaab", 50, 80), STATE);
        worst(with("***aaab", -50, 80), STATE);
        worst(with("-***aaab1", 50, 80), STATE);
        worst(with("***aaab", 50, 79), 0);
        worst(with(MOST, ABOVE), NONE);
        worst(with("+" + MOST + "**cc2", ABOVE), STATE);
        worst(with("-" + MOST + "**cc2", BELOW), STATE);
        refused("worst() of GREAT", Edges::great, LostDigits::worst, STATE);
        // what the TEXT is WORKED to is not GREAT, and WORST is of that
        worst(with(1, 0, "/1-+aa-bc", 36, 74, 2), 4);
    }

    /** 56 to the 4th, 9834496: GREAT of 1 digit; then 9600000, 9860000, 9834000. */
    private static LostDigits fourthPower() {
        return with("**aa*aa", 56);
    }

    private static void fewestDigits() {
        due("needs(0) of a", fresh().needs(0), 1);
        due("needs(0)", with("a", 99).needs(0), 2);
        due("needs(0)", with("+ab", 99, 2).needs(0), 3);
        due("needs(0)", with("*aa", 99).needs(0), 4);
        due("needs(0)", with("*a*aa", 99).needs(0), NONE);
        // what is set does not matter and is not changed
        for (int digits = 1; digits <= 4; digits++) {
            LostDigits x = with(digits, 0, "*aa", 99);
            due("needs(0)", x.needs(0), 4);
            due("needs(1)", x.needs(ONE), 2);
            due("told(2)", x.told(2), digits);
        }
        // the WAY does: towards 0 one digit is 90 by 90, so 8000
        LostDigits x = with(3, 1, "*aa", 99);
        due("needs(1801)", x.needs(1801 * ONE), 1);
        due("needs(1800)", x.needs(1801 * ONE - 1), 2);
    }

    private static void trusts() {
        LostDigits x = fourthPower();
        due("needs(234496)", x.needs(234496 * ONE), 2);
        due("needs(234496 less a billionth)", x.needs(234496 * ONE - 1), 3);
        due("needs(25504)", x.needs(25504 * ONE), 3);
        due("needs(25504 less a billionth)", x.needs(25504 * ONE - 1), 4);
        due("needs(496)", x.needs(496 * ONE), 4);
        due("needs(496 less a billionth)", x.needs(496 * ONE - 1), NONE);
        // as far below 0 as above: 5 more, 5 less
        for (int a : new int[] {95, -95, 85, -85}) {
            LostDigits y = with("a", a);
            due("needs(5)", y.needs(5 * ONE), 1);
            due("needs(5 less a billionth)", y.needs(5 * ONE - 1), 2);
        }
        x = with("/ab", 2, 3);
        due("needs(33334)", x.needs(33334), 4);
        due("needs(33333)", x.needs(33333), NONE);
    }

    private static void needsNone() {
        due("needs(0)", with("/ab", 1, 3).needs(0), NONE);
        due("needs(33332)", with("/ab", 1, 3).needs(33332), NONE);
        due("needs(33333)", with("/ab", 1, 3).needs(33333), 4);
        // by no DIGITS is it other than GREAT
        for (long trust : new long[] {0, GREAT - 1, GREAT, GREAT + 1, Long.MAX_VALUE}) {
            due("needs(" + trust + ")", great().needs(trust), NONE);
            due("needs(" + trust + ")", with("***aaab", 50, 80).needs(trust), NONE);
        }
        // by 1 digit it is GREAT, and that is within no trust
        due("needs(greatest)", fourthPower().needs(Long.MAX_VALUE), 2);
        due("needs(GREAT)", fourthPower().needs(GREAT), 2);
    }

    private static void trustBelowNought() {
        due("needs(0)", small().needs(0), 1);
        for (long trust : new long[] {-1, -2, LOST, Long.MIN_VALUE + 1, Long.MIN_VALUE}) {
            refused("needs(" + trust + ")", Edges::small, y -> y.needs(trust), OUTSIDE);
            refused("needs(" + trust + ") of GREAT", Edges::great, y -> y.needs(trust), OUTSIDE);
        }
        due("needs(greatest)", small().needs(Long.MAX_VALUE), 1);
    }
}
