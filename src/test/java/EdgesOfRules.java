import java.util.ArrayList;
import java.util.List;

/** RULES, BETTER, IMAGES and what is told: promises 23 to 29. */
public final class EdgesOfRules extends Edges {
    /** The RULES as the document writes them, X, Y, Z being its x, y, z: what is changed, what it becomes. */
    private static final String[][] RULES = {
        {"+XY", "+YX", "*XY", "*YX"},
        {"++XYZ", "+X+YZ", "**XYZ", "*X*YZ"},
        {"*X+YZ", "+*XY*XZ", "*X-YZ", "-*XY*XZ"},
        {"+*XY*XZ", "*X+YZ", "-*XY*XZ", "*X-YZ"},
        {"-*XX*YY", "*-XY+XY"},
        {"--XYZ", "-X+YZ"},
        {"/X/YZ", "/*XZY"}
    };

    public static void main(String[] args) {
        testFits();
        testChange();
        testBetter();
        testImages();
        end("the edges of rules and images");
    }

    private static void testFits() {
        test("0 +xy, *xy become +yx, *yx; 1 ++xyz becomes +x+yz, **xyz *x*yz;", () -> allShortTexts(0, 1));
        test("2 *x+yz becomes +*xy*xz, *x-yz -*xy*xz; 3 +*xy*xz becomes *x+yz, -*xy*xz *x-yz",
            () -> allShortTexts(2, 3));
        test("4 -*xx*yy becomes *-xy+xy; 5 --xyz becomes -x+yz; 6 /x/yz becomes /*xzy.", () -> allShortTexts(4, 6));
        test("(both x alike, sign for sign);", EdgesOfRules::signForSign);
        test("It does not fit, if its signs are others,", EdgesOfRules::otherSigns);
        test("or the TEXT would have more than 13 signs.", EdgesOfRules::moreThan13);
        test("Whether a RULE (0 to 6) fits at a STEP: 1, 0. UNKNOWN; OUTSIDE.", EdgesOfRules::fitsRefused);
    }

    private static void testChange() {
        test("RULES change the TEXT at a STEP:", EdgesOfRules::changeAtAStep);
        test("A RULE is done at a STEP: how many signs the TEXT has then.", EdgesOfRules::howManySignsThen);
        test("UNKNOWN; OUTSIDE; NO: it does not fit.", EdgesOfRules::changeRefused);
    }

    private static void testBetter() {
        test("BETTER by n RULES (0 to 2): of all texts that come by up to n of them, one behind another,",
            EdgesOfRules::upToTwoRules);
        test("the least LOSS, by how far it is from 0", EdgesOfRules::leastLoss);
        test("(GREAT ones left out),", EdgesOfRules::greatLeftOut);
        test("and of those with it the one that comes first: with the fewest RULES,", EdgesOfRules::fewestRules);
        test("then by the first one's STEP, RULE, then the second one's.", EdgesOfRules::firstOfLikeOnes);
        test("BETTER: its LOSS. OUTSIDE, NONE: all are GREAT.", EdgesOfRules::betterRefused);
        test("BETTER: how many signs it has (i = -1), the i-th; NONE. OUTSIDE.", EdgesOfRules::betterSigns);
    }

    private static void testImages() {
        test("All but the PAD is kept in an IMAGE (0, 1): 1. OUTSIDE.", EdgesOfRules::image);
        test("It is as it was when it was kept: 1. OUTSIDE;", EdgesOfRules::restore);
        test("It is as it was when it was kept: 1.", EdgesOfRules::restoreFromAnyOther);
        test("OUTSIDE; STATE: it was not.", EdgesOfRules::restoreOfNone);
        test("0 signs on the PAD, 1 signs of the TEXT, 2 DIGITS, 3 WAY, 4 TERMS,", EdgesOfRules::toldCounts);
        test("10 to 14 numbers of letters, and 100, 20 to 24 their spans. OUTSIDE.", EdgesOfRules::toldLetters);
    }

    /** Where the text that begins at a place ends. */
    private static int endOf(String signs, int place) {
        int open = 1;
        int end = place;
        while (open > 0) {
            open += "+-*/".indexOf(signs.charAt(end)) >= 0 ? 1 : -1;
            end++;
        }
        return end;
    }

    /** What becomes of the text that begins at a place by a pattern of the document; null, if it is another. */
    private static String changed(String signs, int place, String from, String to) {
        String[] parts = new String[3];
        int at = place;
        for (char c : from.toCharArray()) {
            if (at >= signs.length()) {
                return null;
            }
            int part = "XYZ".indexOf(c);
            int end = part < 0 ? at + 1 : endOf(signs, at);
            String found = signs.substring(at, end);
            if (part < 0 ? found.charAt(0) != c : parts[part] != null && !parts[part].equals(found)) {
                return null;
            }
            if (part >= 0) {
                parts[part] = found;
            }
            at = end;
        }
        String became = to;
        for (int i = 0; i < 3; i++) {
            became = parts[i] == null ? became : became.replace("" + "XYZ".charAt(i), parts[i]);
        }
        return signs.substring(0, place) + became + signs.substring(at);
    }

    private static String changed(String signs, int place, int rule) {
        for (int i = 0; i < RULES[rule].length; i += 2) {
            String became = changed(signs, place, RULES[rule][i], RULES[rule][i + 1]);
            if (became != null && became.length() <= 13) {
                return became;
            }
        }
        return null;
    }

    private static List<String> texts(int operators, String leaves) {
        List<String> all = new ArrayList<>();
        if (operators == 0) {
            for (char c : leaves.toCharArray()) {
                all.add("" + c);
            }
        }
        for (int first = 0; first < operators; first++) {
            for (String one : texts(first, leaves)) {
                for (String other : texts(operators - 1 - first, leaves)) {
                    for (char c : "+-*/".toCharArray()) {
                        all.add(c + one + other);
                    }
                }
            }
        }
        return all;
    }

    /** All texts of up to three signs + - * / and two letters: each RULE fits just where the document says. */
    private static void allShortTexts(int fromRule, int toRule) {
        for (int operators = 0; operators <= 3; operators++) {
            for (String signs : texts(operators, "ab")) {
                for (int rule = fromRule; rule <= toRule; rule++) {
                    checkRule(signs, rule);
                }
            }
        }
    }

    private static void checkRule(String signs, int rule) {
        LostDigits x = fresh();
        pad(x, signs);
        x.text();
        for (int step = 0; step < signs.length(); step++) {
            String became = changed(signs, step, rule);
            due("fits(" + rule + ", " + step + ") of " + signs, x.fits(rule, step), became == null ? 0 : 1);
            if (became != null) {
                change(signs, rule, step, became);
            }
        }
        due("change(" + rule + ", " + signs.length() + ")", x.change(rule, signs.length()), UNKNOWN);
    }

    private static void change(String signs, int rule, int step, String want) {
        LostDigits x = fresh();
        pad(x, signs);
        x.text();
        due("change(" + rule + ", " + step + ") of " + signs, x.change(rule, step), want.length());
        dueText(x, want);
    }

    private static void fits(String signs, int rule, int step, int want) {
        LostDigits x = with(signs);
        due("fits(" + rule + ", " + step + ") of " + signs, x.fits(rule, step), want);
        dueText(x, signs);
        if (want == 0) {
            refused("change(" + rule + ", " + step + ") of " + signs, () -> with(signs), y -> y.change(rule, step), NO);
        } else {
            change(signs, rule, step, changed(signs, step, rule));
        }
    }

    private static void signForSign() {
        fits("+*ab*ac", 3, 0, 1);
        fits("+*ab*ca", 3, 0, 0);
        fits("+*ba*ca", 3, 0, 0);
        fits("-*ab*ac", 3, 0, 1);
        fits("-*ab*bc", 3, 0, 0);
        // longer ones, that differ in the first sign, the last one, or in how many there are
        fits("+*+abc*+abd", 3, 0, 1);
        fits("+*+abc*-abd", 3, 0, 0);
        fits("+*+abc*+acd", 3, 0, 0);
        fits("+*+abc*+bad", 3, 0, 0);
        fits("+*+abc*ad", 3, 0, 0);
        fits("+*ac*+abd", 3, 0, 0);
        // what is worth the same is not alike
        fits("+*1b*ac", 3, 0, 0);
        fits("+*1b*1c", 3, 0, 1);
        fits("-*aa*bb", 4, 0, 1);
        fits("-*ab*bb", 4, 0, 0);
        fits("-*aa*ba", 4, 0, 0);
        fits("-*aa*aa", 4, 0, 1);
        fits("-*+ab+ab*cc", 4, 0, 1);
        fits("-*+ab+ba*cc", 4, 0, 0);
        fits("-*cc*+ab+ab", 4, 0, 1);
        fits("-*cc*+ab+ac", 4, 0, 0);
    }

    /** Each RULE by each of the four signs at each of its places. */
    private static void otherSigns() {
        String[][] fitting = {
            {"+ab", "*ab"}, {"++abc", "**abc"}, {"*a+bc", "*a-bc"}, {"+*ab*ac", "-*ab*ac"}, {"-*aa*bb"}, {"--abc"},
            {"/a/bc"}
        };
        for (int rule = 0; rule < 7; rule++) {
            for (String signs : fitting[rule]) {
                fits(signs, rule, 0, 1);
                for (int i = 0; i < signs.length(); i++) {
                    for (char c : "+-*/".toCharArray()) {
                        if ("+-*/".indexOf(signs.charAt(i)) >= 0) {
                            String other = signs.substring(0, i) + c + signs.substring(i + 1);
                            fits(other, rule, 0, List.of(fitting[rule]).contains(other) ? 1 : 0);
                        }
                    }
                }
            }
            fits("a", rule, 0, 0);
            fits("7", rule, 0, 0);
            fits("+ab", rule, 1, 0);
            fits("+ab", rule, 2, 0);
        }
    }

    private static void moreThan13() {
        // RULE 2 makes one sign more and x once more: 13 are fine, 15 are not
        fits("*a+b+++cdea", 2, 0, 1);
        fits("*a+b++++cdeab", 2, 0, 0);
        fits("*a-b+++cdea", 2, 0, 1);
        fits("*a-b++++cdeab", 2, 0, 0);
        fits("*+ab+c+de", 2, 0, 1);
        fits("*+ab+c++dea", 2, 0, 0);
        fits("*+ab+cd", 2, 0, 1);
        fits("*+a+bc+de", 2, 0, 0);
        // the whole TEXT counts, not what is changed
        fits("++++*a+bcdeab", 2, 4, 0);
        fits("+++*a+bcdea", 2, 3, 1);
        fits("/a/b/c/d*a+bc", 2, 8, 0);
        fits("/a/b/c*a+bc", 2, 6, 1);
        // the others make no more signs: at 13 they fit
        fits("++++++abcdeab", 0, 0, 1);
        fits("++++++abcdeab", 1, 0, 1);
        fits("**++++abcdeab", 1, 0, 1);
        fits("+*a++bcd*a+eb", 3, 0, 1);
        fits("/1-*+ab+ab*cc", 4, 2, 1);
        fits("--++++abcdeab", 5, 0, 1);
        fits("/+ab/+c+de+ab", 6, 0, 1);
    }

    private static void fitsRefused() {
        LostDigits x = with("+ab");
        for (int rule = 0; rule < 7; rule++) {
            for (int step = 0; step < 3; step++) {
                due("fits(" + rule + ", " + step + ")", x.fits(rule, step), rule == 0 && step == 0 ? 1 : 0);
            }
            int r = rule;
            refused("fits(" + r + ", 3)", Edges::small, y -> y.fits(r, 3), UNKNOWN);
            refused("fits(" + r + ", -1)", Edges::small, y -> y.fits(r, -1), UNKNOWN);
        }
        for (int step = 0; step < 3; step++) {
            int s = step;
            refused("fits(-1, " + s + ")", Edges::small, y -> y.fits(-1, s), OUTSIDE);
            refused("fits(7, " + s + ")", Edges::small, y -> y.fits(7, s), OUTSIDE);
        }
        refusedAll("fits(0, v)", WILD, (y, v) -> y.fits(0, v), UNKNOWN);
        refusedAll("fits(v, 0)", WILD, (y, v) -> y.fits(v, 0), OUTSIDE);
        refused("fits(4, 0)", Edges::rich, y -> y.fits(4, 0), 1);
        due("fits(0, 12)", full().fits(0, 12), 0);
        due("fits(0, 13)", full().fits(0, 13), UNKNOWN);
    }

    private static void changeAtAStep() {
        change("+*abc", 0, 0, "+c*ab");
        change("+*abc", 0, 1, "+*bac");
        change("-*ab*cd", 0, 1, "-*ba*cd");
        change("-*ab*cd", 0, 4, "-*ab*dc");
        change("+1*-a2/b/cd", 6, 6, "+1*-a2/*bdc");
        change("+a+a+a+a+a+ab", 0, 10, "+a+a+a+a+a+ba");
        change("+a+a+a+a+a+ab", 0, 0, "++a+a+a+a+aba");
        // only the TEXT is another, and it is worked as it is now
        LostDigits x = with("-*aa*bb", 98, 97);
        due("loss()", x.loss(), -5 * ONE);
        due("better(0)", x.better(0), -5 * ONE);
        due("truth(0)", x.truth(0), 195 * ONE);
        pad(x, "+a");
        x.term(ONE);
        due("change(4, 0)", x.change(4, 0), 7);
        due("loss()", x.loss(), 0);
        due("better(0)", x.better(0), 0);
        due("truth(0)", x.truth(0), 195 * ONE);
        due("told(0)", x.told(0), 2);
        due("told(4)", x.told(4), 1);
        due("told(10)", x.told(10), 198);
    }

    private static void howManySignsThen() {
        LostDigits x = with("*a+bc");
        due("change(2, 0)", x.change(2, 0), 7);
        due("told(1)", x.told(1), 7);
        dueText(x, "+*ab*ac");
        due("change(3, 0)", x.change(3, 0), 5);
        due("told(1)", x.told(1), 5);
        due("sign(5)", x.sign(5), UNKNOWN);
        dueText(x, "*a+bc");
        due("change(0, 0)", x.change(0, 0), 5);
        due("change(0, 0)", x.change(0, 0), 5);
        dueText(x, "*a+bc");
        x = with("*a+b+++cdea");
        due("change(2, 0)", x.change(2, 0), 13);
        dueText(x, "+*ab*a+++cdea");
        // and at 13 no more
        due("change(2, 4)", x.change(2, 4), NO);
        dueText(x, "+*ab*a+++cdea");
    }

    private static void changeRefused() {
        for (int rule = 0; rule < 7; rule++) {
            int r = rule;
            refused("change(" + r + ", 3)", Edges::small, y -> y.change(r, 3), UNKNOWN);
            refused("change(" + r + ", -1)", Edges::small, y -> y.change(r, -1), UNKNOWN);
            refused("change(" + r + ", 2)", Edges::small, y -> y.change(r, 2), NO);
            if (r > 0) {
                refused("change(" + r + ", 0)", Edges::small, y -> y.change(r, 0), NO);
            }
        }
        due("change(0, 0)", small().change(0, 0), 3);
        for (int step = 0; step < 3; step++) {
            int s = step;
            refused("change(-1, " + s + ")", Edges::small, y -> y.change(-1, s), OUTSIDE);
            refused("change(7, " + s + ")", Edges::small, y -> y.change(7, s), OUTSIDE);
        }
        refusedAll("change(0, v)", WILD, (y, v) -> y.change(0, v), UNKNOWN);
        refusedAll("change(v, 0)", WILD, (y, v) -> y.change(v, 0), OUTSIDE);
        refused("change(2, 0) to 15 signs", () -> with("*a+b++++cdeab"), y -> y.change(2, 0), NO);
    }

    private static void best(LostDigits x, int rules, long lost, String signs) {
        String before = shown(x);
        due("better(" + rules + ") of " + before, x.better(rules), lost);
        due("betterSign(" + rules + ", -1) of " + before, x.betterSign(rules, -1), signs.length());
        StringBuilder found = new StringBuilder();
        for (int i = 0; i < signs.length(); i++) {
            found.append((char) x.betterSign(rules, i));
        }
        same("BETTER by " + rules + " of " + before, found.toString(), signs);
        dueText(x, before);
    }

    private static void upToTwoRules() {
        // 9700 less 9600; only when *ca is turned can a be taken out: 99 times 1
        LostDigits x = with("-*ab*ca", 99, 98, 97);
        best(x, 0, ONE, "-*ab*ca");
        best(x, 1, ONE, "-*ab*ca");
        best(x, 2, 0, "*a-bc");
        // both products would have to be turned first, and that is one RULE too many
        x = with("-*ba*ca", 99, 98, 97);
        best(x, 2, ONE, "-*ba*ca");
        due("change(0, 1)", x.change(0, 1), 7);
        best(x, 2, 0, "*a-bc");
        x = with("-*aa*bb", 98, 97);
        best(x, 0, -5 * ONE, "-*aa*bb");
        best(x, 1, 0, "*-ab+ab");
        best(x, 2, 0, "*-ab+ab");
        best(x, 0, -5 * ONE, "-*aa*bb");
    }

    private static void leastLoss() {
        // -728 is nearer to 0 than -7728, however less that is
        best(with(2, 3, "**cbb", 36, 84, 13), 1, -728 * ONE, "*c*bb");
        best(with(1, 1, "*-bcc", 1, 36, 2), 2, -18 * ONE, "-*cb*cc");
        best(with("+*ca*c+dd", 84, 1, 26, 81), 0, -6 * ONE, "+*ca*c+dd");
        best(with("+*ca*c+dd", 84, 1, 26, 81), 1, 4 * ONE, "*c+a+dd");
        // 50 below comes before 50 above
        best(with(2, 2, "**bb+cc", 44, -5, 97), 2, -50 * ONE, "*b+*bc*bc");
    }

    private static void greatLeftOut() {
        LostDigits x = with("/a/b0", 3, 7);
        due("loss()", x.loss(), GREAT);
        due("better(0)", x.better(0), LOST - 6);
        due("betterSign(0, -1)", x.betterSign(0, -1), NONE);
        best(x, 1, 0, "/*a0b");
        best(x, 2, 0, "/*a0b");
        x = with("+/a/b01", 3, 7);
        due("better(0)", x.better(0), LOST - 6);
        best(x, 1, 0, "+/*a0b1");
        // both of its parts are GREAT: two RULES must come
        x = with("+/a/b0/c/d0", 3, 7, 5, 9);
        due("better(0)", x.better(0), LOST - 6);
        due("better(1)", x.better(1), LOST - 6);
        best(x, 2, 0, "+/*a0b/*c0d");
    }

    private static void fewestRules() {
        best(with("+ab", 2, 3), 2, 0, "+ab");
        best(with("++abc", 2, 3, 4), 2, 0, "++abc");
        best(with(1, 2, "*b-ca", 44, 7, 3), 2, -13 * ONE, "-*bc*ba");
        // one RULE at STEP 1 comes before two of which the first is at STEP 0
        best(with(3, 3, "*/c/aab", 97, -33, -33), 2, ONE, "*/*caab");
    }

    private static void firstOfLikeOnes() {
        // STEP 0 before STEP 1 by the same RULE, STEP 0 by RULE 3 before STEP 4 by RULE 2
        best(with(1, 2, "---abba", 72, -5, 3), 1, 0, "--ab+ba");
        best(with("+*ca*c+dd", 84, 1, 26, 81), 1, 4 * ONE, "*c+a+dd");
        // the first one's STEP before its RULE, its RULE before the second one's
        best(with(3, 1, "***abaa", 13, 99, 99), 2, -503 * ONE, "*a*b*aa");
        best(with(2, 0, "**ab+cb", 13, 55, 84), 2, -385 * ONE, "*a+*bc*bb");
        // the second one's STEP before its RULE
        best(with(2, 0, "+*-bac*ca", 55, 72, 3), 2, 4 * ONE, "*c+-baa");
    }

    private static void betterRefused() {
        for (int rules = 0; rules <= 2; rules++) {
            int r = rules;
            refused("better(" + r + ") of GREAT", Edges::great, y -> y.better(r), LOST - 6);
            refused("better(" + r + ")", Edges::rich, y -> y.better(r), rich().better(r));
            // RULES fit, but all is GREAT
            due("better(" + r + ")", with("+1*a/b0").better(r), LOST - 6);
        }
        for (int rules : new int[] {-1, 3, 4}) {
            refused("better(" + rules + ")", Edges::small, y -> y.better(rules), LOST - 2);
            refused("better(" + rules + ") of GREAT", Edges::great, y -> y.better(rules), LOST - 2);
        }
        refusedAll("better(v)", WILD, (y, v) -> y.better(v), LOST - 2);
        betterFollowsChanges();
    }

    /** What was found is not told again when it is another. */
    private static void betterFollowsChanges() {
        LostDigits x = with("-*aa*bb", 98, 97);
        best(x, 1, 0, "*-ab+ab");
        x.put(1, 0, 98);
        best(x, 1, 0, "-*aa*bb");
        x.put(1, 0, 97);
        best(x, 1, 0, "*-ab+ab");
        x.set(0, 4);
        best(x, 1, 0, "-*aa*bb");
        x.set(0, 3);
        x.set(1, 2);
        best(x, 1, 0, "*-ab+ab");
        x.image(0);
        text(x, "a");
        best(x, 1, 0, "a");
        x.restore(0);
        best(x, 1, 0, "*-ab+ab");
        due("better(0)", x.better(0), 5 * ONE);
        x.set(1, 0);
        due("better(0)", x.better(0), -5 * ONE);
    }

    private static void betterSigns() {
        LostDigits x = with("+*ca*c+dd", 84, 1, 26, 81);
        int[] lengths = {9, 7, 7};
        for (int rules = 0; rules <= 2; rules++) {
            int length = lengths[rules];
            due("betterSign(" + rules + ", -1)", x.betterSign(rules, -1), length);
            due("betterSign(" + rules + ", last)", x.betterSign(rules, length - 1), 'd');
            for (int i : new int[] {length, length + 1, 12, 13, -2, -3}) {
                due("betterSign(" + rules + ", " + i + ")", x.betterSign(rules, i), NONE);
            }
            for (int v : WILD) {
                due("betterSign(" + rules + ", " + v + ")", x.betterSign(rules, v), NONE);
            }
            for (int i = -2; i <= 13; i++) {
                due("betterSign(" + rules + ", " + i + ") of GREAT", great().betterSign(rules, i), NONE);
            }
        }
        for (int rules : new int[] {-1, 3}) {
            for (int i : new int[] {-2, -1, 0, 13}) {
                refused("betterSign(" + rules + ", " + i + ")", Edges::small, y -> y.betterSign(rules, i), OUTSIDE);
            }
        }
        refusedAll("betterSign(v, -1)", WILD, (y, v) -> y.betterSign(v, -1), OUTSIDE);
        refusedAll("betterSign(v, 0)", WILD, (y, v) -> y.betterSign(v, 0), OUTSIDE);
        // a text of 13 signs has a sign 12, none 13
        x = with("+a+b+c+d+e+12", 3, 4, 5, 6, 7);
        due("betterSign(0, 12)", x.betterSign(0, 12), '2');
        due("betterSign(0, 13)", x.betterSign(0, 13), NONE);
    }

    private static void image() {
        for (int n = 0; n <= 1; n++) {
            LostDigits x = full();
            String before = answers(x);
            due("image(" + n + ")", x.image(n), 1);
            same("behind image", answers(x), before);
            x.clear();
            text(x, "7");
            pad(x, "++++++abcdeabcdeabcd");
            due("restore(" + n + ")", x.restore(n), 1);
            same("restored", answers(x), before);
        }
        for (int n : new int[] {-1, 2, 3}) {
            refused("image(" + n + ")", Edges::small, y -> y.image(n), OUTSIDE);
            refused("image(" + n + ") with both", Edges::full, y -> y.image(n), OUTSIDE);
        }
        refusedAll("image(v)", WILD, (y, v) -> y.image(v), OUTSIDE);
        // the PAD is not kept: what is said later stays, what was said then does not come back
        LostDigits x = padded("+a");
        x.image(0);
        x.say('b');
        x.restore(0);
        due("told(0)", x.told(0), 3);
        due("text()", x.text(), 3);
        x.restore(0);
        due("told(0)", x.told(0), 0);
        dueText(x, "a");
    }

    private static void restore() {
        LostDigits x = rich();
        String first = answers(x);
        x.image(0);
        x.set(0, 4);
        x.set(1, 1);
        for (int letter = 0; letter < 5; letter++) {
            x.put(letter, 0, letter - 2);
            x.put(letter, 1, letter);
        }
        x.term(ONE);
        x.change(4, 0);
        String second = answers(x);
        x.image(1);
        due("restore(0)", x.restore(0), 1);
        same("the first", answers(x), first);
        due("restore(1)", x.restore(1), 1);
        same("the second", answers(x), second);
        due("restore(1)", x.restore(1), 1);
        same("the second, again", answers(x), second);
        // what is done behind it does not reach the IMAGE; kept anew it is another
        x.clear();
        x.put(0, 0, 50);
        due("restore(1)", x.restore(1), 1);
        due("told(4)", x.told(4), 4);
        due("told(10)", x.told(10), 98);
        x.restore(0);
        x.image(1);
        x.clear();
        due("restore(1)", x.restore(1), 1);
        same("kept anew", answers(x), first);
    }

    /** Very unlike states, told on whatever object. */
    private static void tell(LostDigits x, int state) {
        String[] all = {"7", "+ab", "*0*0*0*0*0*0a", "+1/ab", "+1/ba", "-*aa*bb", "/+*ab-cd+*eab"};
        int[][] numbers = {{1}, {36, 44}, {36}, {5, 0}, {5, 0}, {98, 97}, {9, -8, 7, 60, 5}};
        long[][] terms = {{}, {4, -9, -20}, {9}, {9000000, 9000000}, {1, 2, 3, 4, 5, 6, 7}, {1000, 4, 4}, {-4, 9}};
        text(x, all[state]);
        numbers(x, numbers[state]);
        x.set(0, 1 + state % 4);
        x.set(1, state % 3);
        x.put(state % 5, 1, state % 6);
        x.clear();
        for (long term : terms[state]) {
            x.term(term * ONE);
        }
    }

    private static void restoreFromAnyOther() {
        for (int kept = 0; kept < 7; kept++) {
            for (int other = 0; other < 7; other++) {
                LostDigits x = fresh();
                tell(x, kept);
                String before = answers(x);
                x.image(kept % 2);
                tell(x, other);
                answers(x);
                due("restore(" + kept % 2 + ")", x.restore(kept % 2), 1);
                same("restored " + kept + " from " + other, answers(x), before);
            }
        }
    }

    private static void restoreOfNone() {
        refused("restore(0)", Edges::fresh, y -> y.restore(0), STATE);
        refused("restore(1)", Edges::fresh, y -> y.restore(1), STATE);
        refused("restore(1) where 0 is kept", Edges::rich, y -> y.restore(1), STATE);
        refused("restore(0) where 1 is kept", Edges::small, y -> y.restore(0), STATE);
        due("restore(0) where it is kept", rich().restore(0), 1);
        due("restore(1) where it is kept", small().restore(1), 1);
        for (int n : new int[] {-1, 2, 3}) {
            refused("restore(" + n + ")", Edges::fresh, y -> y.restore(n), OUTSIDE);
            refused("restore(" + n + ") with both", Edges::full, y -> y.restore(n), OUTSIDE);
        }
        refusedAll("restore(v)", WILD, (y, v) -> y.restore(v), OUTSIDE);
        // to be restored does not use it up, and does not keep the other
        LostDigits x = small();
        x.restore(1);
        due("restore(1)", x.restore(1), 1);
        due("restore(0)", x.restore(0), STATE);
    }

    private static void toldCounts() {
        int[] atFirst = {0, 1, 3, 0, 0};
        int[] whenFull = {20, 13, 3, 2, 7};
        int[] whenRich = {2, 7, 2, 3, 3};
        for (int what = 0; what < 5; what++) {
            due("told(" + what + ") of a new one", fresh().told(what), atFirst[what]);
            due("told(" + what + ") of a full one", full().told(what), whenFull[what]);
            due("told(" + what + ")", rich().told(what), whenRich[what]);
        }
        for (int what = 5; what <= 9; what++) {
            int w = what;
            refused("told(" + w + ")", Edges::small, y -> y.told(w), OUTSIDE);
        }
        refused("told(-1)", Edges::small, y -> y.told(-1), OUTSIDE);
        refusedAll("told(v)", WILD, (y, v) -> y.told(v), OUTSIDE);
    }

    private static void toldLetters() {
        for (int letter = 0; letter < 5; letter++) {
            LostDigits x = fresh();
            due("told(1" + letter + ")", x.told(10 + letter), 101);
            due("told(2" + letter + ")", x.told(20 + letter), 0);
            x.put(letter, 0, -99);
            x.put(letter, 1, 5);
            due("told(1" + letter + ")", x.told(10 + letter), 1);
            due("told(2" + letter + ")", x.told(20 + letter), 5);
            x.put(letter, 0, 99);
            due("told(1" + letter + ")", x.told(10 + letter), 199);
        }
        for (int what : new int[] {9, 15, 16, 17, 18, 19, 25, 26, 30, 100}) {
            refused("told(" + what + ")", Edges::small, y -> y.told(what), OUTSIDE);
        }
    }
}
