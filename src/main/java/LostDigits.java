/**
 * What is lost by few digits: small texts of sums, differences, products and quotients, worked in decimals of
 * few digits and beside that exactly; sums in all orders; bounds by spans; texts rewritten so as to lose less.
 *
 * Every row is made in a constructor and used again: no call makes an object.
 */
public final class LostDigits {
    public static final int UNKNOWN = -1, OUTSIDE = -2, STATE = -3, FULL = -4, NO = -5, NONE = -6;
    public static final long LOST = -1000000000000000000L, GREAT = 1000000000000000000L;

    private static final int LONGEST = 13;
    private static final int PAD_ROOM = 20;
    private static final int LETTERS = 5;
    private static final int EVERY_PART = 1 << LETTERS;
    private static final int FARTHEST_NUMBER = 99;
    private static final int WIDEST_SPAN = 5;
    private static final int MOST_TERMS = 7;
    private static final int MOST_DIGITS = 4;
    private static final int RULE_COUNT = 7;
    private static final int MOST_RULES = 2;
    /** In place of the number of a TERM or a sign: how many there are. */
    private static final int HOW_MANY = -1;

    private static final int NEAREST = 0;
    private static final int UP = 2;
    private static final int DOWN = 3;

    private static final long BILLION = 1000000000L;
    /** 10000000 and 0.000001, told in billionths. */
    private static final long TOO_GREAT = 10000000000000000L;
    private static final long LEAST = 1000L;
    /** How many digits stand before the last one of TOO_GREAT and of LEAST. */
    private static final int TOO_GREAT_PLACE = 16;
    private static final int LEAST_PLACE = 3;

    private static final long[] TENS = {
        1L, 10L, 100L, 1000L, 10000L, 100000L, 1000000L, 10000000L, 100000000L, 1000000000L,
        10000000000L, 100000000000L, 1000000000000L, 10000000000000L, 100000000000000L,
        1000000000000000L, 10000000000000000L, 100000000000000000L, 1000000000000000000L
    };

    private final Page now;
    private final Page imageZero;
    private final Page imageOne;
    private final int[] pad;
    private int padded;
    private final Ratio ratio;
    private final Rounding rounding;
    private final Steps steps;
    private final Sums sums;
    private final Orders allOrders;
    private final Spans spans;
    private final Search search;

    public LostDigits() {
        now = new Page();
        imageZero = new Page();
        imageOne = new Page();
        pad = new int[PAD_ROOM];
        padded = 0;
        ratio = new Ratio();
        rounding = new Rounding();
        steps = new Steps();
        sums = new Sums();
        allOrders = new Orders();
        spans = new Spans();
        search = new Search();
    }

    // ---- 1 decimals, texts

    public int set(int which, int v) {
        if (which == 0 && v >= 1 && v <= MOST_DIGITS) {
            int was = now.digits;
            now.digits = v;
            forgetFindings();
            return was;
        }
        if (which == 1 && v >= NEAREST && v <= DOWN) {
            int was = now.way;
            now.way = v;
            forgetFindings();
            return was;
        }
        return OUTSIDE;
    }

    public long round(int upper, int lower, int power) {
        if (upper < -1000000 || upper > 1000000 || lower < 1 || lower > 1000000 || power < -9 || power > 9) {
            return LOST + OUTSIDE;
        }
        ratio.hold(upper, lower, power + 9);
        rounding.turn(now.digits, now.way);
        return rounding.of(ratio);
    }

    public int say(int sign) {
        if (sign < 33 || sign > 126) {
            return OUTSIDE;
        }
        if (padded >= PAD_ROOM) {
            return FULL;
        }
        pad[padded] = sign;
        padded++;
        return padded;
    }

    public int wipe() {
        int was = padded;
        padded = 0;
        return was;
    }

    public int fault() {
        int open = 1;
        for (int i = 0; i < padded && i < PAD_ROOM; i++) {
            if (i >= LONGEST || open == 0) {
                return i;
            }
            if (isOperator(pad[i])) {
                open++;
            } else if (isLetter(pad[i]) || isDigit(pad[i])) {
                open--;
            } else {
                return i;
            }
        }
        return open == 0 ? NONE : padded;
    }

    public int text() {
        if (fault() != NONE) {
            return NO;
        }
        now.text.read(pad, padded);
        padded = 0;
        forgetFindings();
        return now.text.length;
    }

    public int sign(int step) {
        return now.text.has(step) ? now.text.signAt(step) : UNKNOWN;
    }

    public int put(int letter, int what, int v) {
        if (letter < 0 || letter >= LETTERS) {
            return OUTSIDE;
        }
        if (what == 0 && v >= -FARTHEST_NUMBER && v <= FARTHEST_NUMBER) {
            int was = now.numbers[letter] + 100;
            now.numbers[letter] = v;
            forgetFindings();
            return was;
        }
        if (what == 1 && v >= 0 && v <= WIDEST_SPAN) {
            int was = now.spans[letter];
            now.spans[letter] = v;
            forgetFindings();
            return was;
        }
        return OUTSIDE;
    }

    // ---- 2 worked

    public long worked(int step, int what) {
        if (!now.text.has(step)) {
            return LOST + UNKNOWN;
        }
        if (what < 0 || what > 2) {
            return LOST + OUTSIDE;
        }
        if (what == 1) {
            steps.fractions.workParts(now.text, now.numbers, EVERY_PART);
            return steps.fractions.billionths(step, 0);
        }
        workNow();
        return what == 0 ? at(steps.values, step) : at(steps.slips, step);
    }

    public long exact(int part) {
        if (part < 0 || part > 1) {
            return LOST + OUTSIDE;
        }
        steps.fractions.workParts(now.text, now.numbers, EVERY_PART);
        return steps.fractions.lowest(part);
    }

    public long loss() {
        steps.rounding.turn(now.digits, now.way);
        return steps.lossOf(now.text, now.numbers);
    }

    public int worst() {
        workNow();
        if (at(steps.values, 0) == GREAT) {
            return STATE;
        }
        int found = NONE;
        long farthest = 0;
        for (int i = 0; i < now.text.length && i < LONGEST; i++) {
            long far = Math.abs(steps.slips[i]);
            if (far > farthest) {
                farthest = far;
                found = i;
            }
        }
        return found;
    }

    public int needs(long trust) {
        if (trust < 0) {
            return OUTSIDE;
        }
        for (int digits = 1; digits <= MOST_DIGITS; digits++) {
            steps.rounding.turn(digits, now.way);
            long lost = steps.lossOf(now.text, now.numbers);
            if (lost != GREAT && Math.abs(lost) <= trust) {
                return digits;
            }
        }
        return NONE;
    }

    // ---- 3 sums

    public int term(long v) {
        if (v <= -TOO_GREAT || v >= TOO_GREAT) {
            return OUTSIDE;
        }
        ratio.hold(v, 1L, 0);
        rounding.turn(now.digits, now.way);
        long decimal = rounding.of(ratio);
        if (decimal == GREAT) {
            return OUTSIDE;
        }
        if (now.termCount >= MOST_TERMS) {
            return FULL;
        }
        now.terms[now.termCount] = decimal;
        now.termCount++;
        forgetFindings();
        return now.termCount;
    }

    public int clear() {
        int was = now.termCount;
        now.termCount = 0;
        forgetFindings();
        return was;
    }

    public long about(int term) {
        return term >= 0 && term < now.termCount ? at(now.terms, term) : LOST + UNKNOWN;
    }

    public long sum(int how) {
        if (how < 0 || how > 4) {
            return LOST + OUTSIDE;
        }
        if (now.termCount == 0) {
            return LOST + NONE;
        }
        sums.take(now);
        switch (how) {
            case 0:
                return sums.asTold();
            case 1:
                return sums.beside();
            case 2:
                return sums.halves();
            case 3:
                return sums.bySize();
            default:
                return sums.whole();
        }
    }

    public long orders(int most) {
        if (most < 0 || most > 1) {
            return LOST + OUTSIDE;
        }
        allOrders.find(now);
        return allOrders.counts[most] == 0 ? LOST + NONE : allOrders.losses[most];
    }

    public int order(int most, int i) {
        if (most < 0 || most > 1) {
            return OUTSIDE;
        }
        allOrders.find(now);
        if (allOrders.counts[most] == 0) {
            return NONE;
        }
        if (i == HOW_MANY) {
            return allOrders.counts[most];
        }
        return i >= 0 && i < now.termCount && i < MOST_TERMS ? allOrders.firsts[most][i] : NONE;
    }

    // ---- 4 spans

    public long bounds(int end) {
        if (end < 0 || end > 1) {
            return LOST + OUTSIDE;
        }
        spans.bound(now);
        return end == 0 ? at(spans.low, 0) : at(spans.high, 0);
    }

    public long truth(int end) {
        if (end < 0 || end > 1) {
            return LOST + OUTSIDE;
        }
        spans.findTruth(now);
        return end == 0 ? spans.least : spans.greatest;
    }

    // ---- 5 rules

    public int fits(int rule, int step) {
        if (!now.text.has(step)) {
            return UNKNOWN;
        }
        if (rule < 0 || rule >= RULE_COUNT) {
            return OUTSIDE;
        }
        return Rules.suits(now.text, rule, step) ? 1 : 0;
    }

    public int change(int rule, int step) {
        if (!now.text.has(step)) {
            return UNKNOWN;
        }
        if (rule < 0 || rule >= RULE_COUNT) {
            return OUTSIDE;
        }
        if (!Rules.write(now.text, rule, step, search.once)) {
            return NO;
        }
        now.text.copyFrom(search.once);
        forgetFindings();
        return now.text.length;
    }

    public long better(int rules) {
        if (rules < 0 || rules > MOST_RULES) {
            return LOST + OUTSIDE;
        }
        search.find(now, rules);
        return search.bestLoss == GREAT ? LOST + NONE : search.bestLoss;
    }

    public int betterSign(int rules, int i) {
        if (rules < 0 || rules > MOST_RULES) {
            return OUTSIDE;
        }
        search.find(now, rules);
        if (search.bestLoss == GREAT) {
            return NONE;
        }
        if (i == HOW_MANY) {
            return search.best.length;
        }
        return search.best.has(i) ? search.best.signAt(i) : NONE;
    }

    public int image(int n) {
        if (n < 0 || n > 1) {
            return OUTSIDE;
        }
        Page kept = n == 0 ? imageZero : imageOne;
        kept.copyFrom(now);
        kept.isKept = true;
        return 1;
    }

    public int restore(int n) {
        if (n < 0 || n > 1) {
            return OUTSIDE;
        }
        Page kept = n == 0 ? imageZero : imageOne;
        if (!kept.isKept) {
            return STATE;
        }
        now.copyFrom(kept);
        forgetFindings();
        return 1;
    }

    public int told(int what) {
        if (what >= 10 && what < 10 + LETTERS) {
            return now.numbers[what - 10] + 100;
        }
        if (what >= 20 && what < 20 + LETTERS) {
            return now.spans[what - 20];
        }
        switch (what) {
            case 0:
                return padded;
            case 1:
                return now.text.length;
            case 2:
                return now.digits;
            case 3:
                return now.way;
            case 4:
                return now.termCount;
            default:
                return OUTSIDE;
        }
    }

    private void workNow() {
        steps.rounding.turn(now.digits, now.way);
        steps.work(now.text, now.numbers);
    }

    /** What the long searches found holds only until something is put, told or changed. */
    private void forgetFindings() {
        allOrders.isFound = false;
        spans.isFound = false;
        search.foundRules = NONE;
    }

    private static boolean isOperator(int sign) {
        return sign == '+' || sign == '-' || sign == '*' || sign == '/';
    }

    private static boolean isLetter(int sign) {
        return sign >= 'a' && sign < 'a' + LETTERS;
    }

    private static boolean isDigit(int sign) {
        return sign >= '0' && sign <= '9';
    }

    /** The whole number that a letter or a digit stands for. */
    private static int numberOf(int sign, int[] numbers) {
        if (isDigit(sign)) {
            return sign - '0';
        }
        int letter = sign - 'a';
        return letter >= 0 && letter < numbers.length ? numbers[letter] : 0;
    }

    private static long at(long[] row, int place) {
        return place >= 0 && place < row.length ? row[place] : GREAT;
    }

    /** All that an image keeps. */
    private static final class Page {
        final Text text = new Text();
        final int[] numbers = new int[LETTERS];
        final int[] spans = new int[LETTERS];
        final long[] terms = new long[MOST_TERMS];
        int termCount = 0;
        int digits = 3;
        int way = NEAREST;
        boolean isKept = false;

        Page() {
            for (int i = 0; i < LETTERS; i++) {
                numbers[i] = 1;
            }
        }

        void copyFrom(Page other) {
            text.copyFrom(other.text);
            System.arraycopy(other.numbers, 0, numbers, 0, LETTERS);
            System.arraycopy(other.spans, 0, spans, 0, LETTERS);
            System.arraycopy(other.terms, 0, terms, 0, MOST_TERMS);
            termCount = other.termCount;
            digits = other.digits;
            way = other.way;
        }
    }

    /** The signs of a text; for each of them the place behind the part that begins there, and that part's letters. */
    private static final class Text {
        final int[] signs = new int[LONGEST];
        final int[] ends = new int[LONGEST];
        /** A bit for each letter, and the bit above them for every part. */
        final int[] letters = new int[LONGEST];
        int length;

        Text() {
            signs[0] = 'a';
            length = 1;
            findParts();
        }

        void copyFrom(Text other) {
            System.arraycopy(other.signs, 0, signs, 0, LONGEST);
            System.arraycopy(other.ends, 0, ends, 0, LONGEST);
            System.arraycopy(other.letters, 0, letters, 0, LONGEST);
            length = other.length;
        }

        void read(int[] row, int count) {
            length = 0;
            for (int i = 0; i < count && i < row.length; i++) {
                add(row[i]);
            }
            findParts();
        }

        void add(int sign) {
            if (length >= 0 && length < LONGEST) {
                signs[length] = sign;
                length++;
            }
        }

        void addPlaces(Text other, int from, int to) {
            for (int i = from; i < to; i++) {
                add(other.signAt(i));
            }
        }

        void addPart(Text other, int place) {
            addPlaces(other, place, other.endOf(place));
        }

        void findParts() {
            for (int i = Math.min(length, LONGEST) - 1; i >= 0; i--) {
                if (isOperator(signs[i])) {
                    int second = endOf(i + 1);
                    ends[i] = endOf(second);
                    letters[i] = lettersOf(i + 1) | lettersOf(second);
                } else {
                    ends[i] = i + 1;
                    letters[i] = isLetter(signs[i]) ? EVERY_PART | (1 << (signs[i] - 'a')) : EVERY_PART;
                }
            }
        }

        boolean has(int place) {
            return place >= 0 && place < length;
        }

        int signAt(int place) {
            return place >= 0 && place < length ? signs[place] : 0;
        }

        int endOf(int place) {
            return place >= 0 && place < length ? ends[place] : length;
        }

        int lettersOf(int place) {
            return place >= 0 && place < length ? letters[place] : EVERY_PART;
        }

        /** Where the second of the two texts behind an operator begins. */
        int secondOf(int place) {
            return endOf(place + 1);
        }

        boolean areAlike(int one, int other) {
            int size = endOf(one) - one;
            if (endOf(other) - other != size) {
                return false;
            }
            for (int i = 0; i < size; i++) {
                if (signAt(one + i) != signAt(other + i)) {
                    return false;
                }
            }
            return true;
        }
    }

    /** The number upper by lower (above 0) times 10 to the power of tens, in billionths. */
    private static final class Ratio {
        long upper = 0;
        long lower = 1;
        int tens = 0;

        void hold(long newUpper, long newLower, int newTens) {
            upper = newUpper;
            lower = newLower;
            tens = newTens;
        }

        /**
         * What a sign makes of two decimals told in billionths; false, if it divides by 0.
         * Without their last zeros decimals have four digits at most, so that products stay small.
         */
        boolean join(int sign, long one, long other) {
            if (sign == '+' || sign == '-') {
                hold(sign == '+' ? one + other : one - other, 1L, 0);
                return true;
            }
            int oneZeros = lastZeros(one);
            int otherZeros = lastZeros(other);
            long oneDigits = one / TENS[oneZeros];
            long otherDigits = other / TENS[otherZeros];
            if (sign == '*') {
                hold(oneDigits * otherDigits, 1L, oneZeros + otherZeros - 9);
                return true;
            }
            hold(other < 0 ? -oneDigits : oneDigits, Math.abs(otherDigits), oneZeros - otherZeros + 9);
            return other != 0;
        }

        private static int lastZeros(long number) {
            int zeros = 0;
            long rest = number;
            while (zeros < TOO_GREAT_PLACE && rest != 0 && rest % 10 == 0) {
                rest /= 10;
                zeros++;
            }
            return zeros;
        }

        /** Cut towards 0, in billionths; for numbers below 10000000. */
        long cut() {
            if (lower <= 0) {
                return 0;
            }
            long far = Math.abs(upper);
            long whole = far / lower;
            long rest = far % lower;
            for (int i = 0; i < tens; i++) {
                rest *= 10;
                whole = whole * 10 + rest / lower;
                rest %= lower;
            }
            for (int i = 0; i > tens; i--) {
                whole /= 10;
            }
            return upper < 0 ? -whole : whole;
        }
    }

    /** Rounds to few digits by a way. */
    private static final class Rounding {
        int digits = 3;
        int way = NEAREST;
        /** For bounds: what is rounded away from 0 never becomes 0. */
        boolean keepsTiny = false;

        void turn(int newDigits, int newWay) {
            digits = newDigits;
            way = newWay;
        }

        long of(Ratio number) {
            if (number.upper == 0) {
                return 0;
            }
            boolean isBelow = number.upper < 0;
            long upper = Math.abs(number.upper);
            long lower = number.lower;
            int tens = number.tens;
            for (int i = 0; i < 3 && upper / 100000 >= lower; i++) {
                lower *= 100000;
                tens += 5;
            }
            for (int i = 0; i < TOO_GREAT_PLACE && upper / 10 >= lower; i++) {
                lower *= 10;
                tens++;
            }
            for (int i = 0; i < TOO_GREAT_PLACE && upper < lower; i++) {
                upper *= 10;
                tens--;
            }
            if (lower <= 0) {
                return 0;
            }
            long kept = upper / lower;
            long rest = upper % lower;
            for (int i = 1; i < digits; i++) {
                rest *= 10;
                kept = kept * 10 + rest / lower;
                rest %= lower;
                tens--;
            }
            return placed(goesOn(kept, rest, lower, isBelow) ? kept + 1 : kept, tens, isBelow);
        }

        /** Whether the next decimal farther from 0 is the one to take. */
        private boolean goesOn(long kept, long rest, long lower, boolean isBelow) {
            if (way == UP) {
                return rest > 0 && !isBelow;
            }
            if (way == DOWN) {
                return rest > 0 && isBelow;
            }
            if (way == NEAREST) {
                return rest > lower - rest || (rest == lower - rest && kept % 2 == 1);
            }
            return false;
        }

        /** The decimal of these digits with that many zeros behind them: 0 or GREAT beyond the decimals. */
        private long placed(long kept, int tens, boolean isBelow) {
            boolean isOneLonger = digits >= 1 && digits <= MOST_DIGITS && kept >= TENS[digits];
            long shown = isOneLonger ? kept / 10 : kept;
            int zeros = isOneLonger ? tens + 1 : tens;
            int firstPlace = zeros + digits - 1;
            if (firstPlace >= TOO_GREAT_PLACE) {
                return GREAT;
            }
            long far = 0;
            if (firstPlace >= LEAST_PLACE && zeros >= 0 && zeros < TENS.length) {
                far = shown * TENS[zeros];
            } else if (keepsTiny && way == (isBelow ? DOWN : UP)) {
                far = LEAST;
            }
            return isBelow ? -far : far;
        }
    }

    /** Each part of a text as a fraction; a lower number of 0 says that it divides by 0. */
    private static final class Fractions {
        final long[] uppers = new long[LONGEST];
        final long[] lowers = new long[LONGEST];

        /**
         * Works only those parts that have one of some letters: the others are as they were.
         * Seven leaves of up to 104 keep both numbers below 64 times 104 to the 7th, so they need no cutting down.
         */
        void workParts(Text text, int[] numbers, int letters) {
            for (int i = Math.min(text.length, LONGEST) - 1; i >= 0; i--) {
                if ((text.letters[i] & letters) != 0) {
                    int sign = text.signs[i];
                    if (isOperator(sign)) {
                        join(i, sign, text.secondOf(i));
                    } else {
                        uppers[i] = numberOf(sign, numbers);
                        lowers[i] = 1;
                    }
                }
            }
        }

        private void join(int place, int sign, int second) {
            int first = place + 1;
            uppers[place] = 0;
            lowers[place] = 0;
            if (first >= LONGEST || second < 0 || second >= LONGEST) {
                return;
            }
            long oneUpper = uppers[first];
            long oneLower = lowers[first];
            long otherUpper = uppers[second];
            long otherLower = lowers[second];
            if (oneLower == 0 || otherLower == 0) {
                return;
            }
            if (sign == '/') {
                uppers[place] = otherUpper < 0 ? -oneUpper * otherLower : oneUpper * otherLower;
                lowers[place] = oneLower * Math.abs(otherUpper);
                return;
            }
            lowers[place] = oneLower * otherLower;
            if (sign == '*') {
                uppers[place] = oneUpper * otherUpper;
            } else if (sign == '+') {
                uppers[place] = oneUpper * otherLower + otherUpper * oneLower;
            } else {
                uppers[place] = oneUpper * otherLower - otherUpper * oneLower;
            }
        }

        /** In billionths: cut towards 0 (turn 0), down (-1), up (1). */
        long billionths(int place, int turn) {
            if (place < 0 || place >= LONGEST || lowers[place] <= 0) {
                return GREAT;
            }
            long lower = lowers[place];
            boolean isBelow = uppers[place] < 0;
            long far = Math.abs(uppers[place]);
            long whole = far / lower;
            long rest = far % lower;
            if (whole >= TOO_GREAT / BILLION) {
                return GREAT;
            }
            // the rest is below 64 times 104 to the 7th, so a thousand of it still is a long
            for (int i = 0; i < 3; i++) {
                rest *= 1000;
                whole = whole * 1000 + rest / lower;
                rest %= lower;
            }
            if (rest != 0 && turn == (isBelow ? -1 : 1)) {
                whole++;
            }
            return isBelow ? -whole : whole;
        }

        /** The upper (0) or lower number (1) of the whole text in lowest terms. */
        long lowest(int part) {
            if (lowers[0] <= 0) {
                return GREAT;
            }
            long shared = sharedDivisor(Math.abs(uppers[0]), lowers[0]);
            if (shared <= 0) {
                return GREAT;
            }
            return part == 0 ? uppers[0] / shared : lowers[0] / shared;
        }

        private static long sharedDivisor(long one, long other) {
            long a = one;
            long b = other;
            for (int i = 0; i < 200 && b != 0; i++) {
                long rest = a % b;
                a = b;
                b = rest;
            }
            return a;
        }
    }

    /** Works each step of a text in decimals, with its slip; and what the whole text loses. */
    private static final class Steps {
        final long[] values = new long[LONGEST];
        final long[] slips = new long[LONGEST];
        final Fractions fractions = new Fractions();
        final Rounding rounding = new Rounding();
        final Ratio ratio = new Ratio();

        void work(Text text, int[] numbers) {
            for (int i = Math.min(text.length, LONGEST) - 1; i >= 0; i--) {
                int sign = text.signAt(i);
                boolean isNumber = true;
                if (isOperator(sign)) {
                    long one = at(values, i + 1);
                    long other = at(values, text.secondOf(i));
                    isNumber = one != GREAT && other != GREAT && ratio.join(sign, one, other);
                } else {
                    ratio.hold(numberOf(sign, numbers), 1L, 9);
                }
                values[i] = isNumber ? rounding.of(ratio) : GREAT;
                slips[i] = values[i] == GREAT ? GREAT : values[i] - ratio.cut();
            }
        }

        long lossOf(Text text, int[] numbers) {
            work(text, numbers);
            if (values[0] == GREAT) {
                return GREAT;
            }
            fractions.workParts(text, numbers, EVERY_PART);
            long due = fractions.billionths(0, 0);
            return due == GREAT ? GREAT : values[0] - due;
        }
    }

    /** Sums of the terms, rounded each time. */
    private static final class Sums {
        final Ratio ratio = new Ratio();
        final Rounding rounding = new Rounding();
        final long[] terms = new long[MOST_TERMS];
        final int[] sizes = new int[MOST_TERMS];
        int count = 0;

        void take(Page page) {
            rounding.turn(page.digits, page.way);
            System.arraycopy(page.terms, 0, terms, 0, MOST_TERMS);
            count = Math.max(0, Math.min(page.termCount, MOST_TERMS));
        }

        long plus(long one, long other) {
            if (one == GREAT || other == GREAT) {
                return GREAT;
            }
            ratio.hold(one + other, 1L, 0);
            return rounding.of(ratio);
        }

        private long less(long one, long other) {
            return other == GREAT ? GREAT : plus(one, -other);
        }

        long whole() {
            long all = 0;
            for (int i = 0; i < count; i++) {
                all += terms[i];
            }
            return all;
        }

        long asTold() {
            long all = terms[0];
            for (int i = 1; i < count; i++) {
                all = plus(all, terms[i]);
            }
            return all;
        }

        long beside() {
            long all = 0;
            long lost = 0;
            for (int i = 0; i < count; i++) {
                long part = less(terms[i], lost);
                long next = plus(all, part);
                lost = less(less(next, all), part);
                all = next;
                if (lost == GREAT) {
                    return GREAT;
                }
            }
            return all;
        }

        long halves() {
            return halfSum(0, count, 0);
        }

        /** The sum by halves of the terms from one on to before another. */
        private long halfSum(int from, int to, int depth) {
            int size = to - from;
            if (from < 0 || to > count || size < 1 || depth > MOST_TERMS) {
                return 0;
            }
            if (size == 1) {
                return terms[from];
            }
            int middle = from + (size + 1) / 2;
            return plus(halfSum(from, middle, depth + 1), halfSum(middle, to, depth + 1));
        }

        long bySize() {
            for (int i = 0; i < count; i++) {
                insertBySize(i);
            }
            long all = at(terms, sizes[0]);
            for (int i = 1; i < count; i++) {
                all = plus(all, at(terms, sizes[i]));
            }
            return all;
        }

        /** Later ones stay behind those of the same size. */
        private void insertBySize(int term) {
            int place = term;
            while (place > 0 && Math.abs(at(terms, sizes[place - 1])) > Math.abs(terms[term])) {
                sizes[place] = sizes[place - 1];
                place--;
            }
            sizes[place] = term;
        }
    }

    /** All orders of the terms: the loss nearest to 0 (row 0) and the farthest (row 1). */
    private static final class Orders {
        final Sums sums = new Sums();
        final int[] path = new int[MOST_TERMS];
        final long[] losses = new long[2];
        final int[] counts = new int[2];
        final int[][] firsts = new int[2][MOST_TERMS];
        long whole = 0;
        boolean isFound = false;

        void find(Page page) {
            if (isFound) {
                return;
            }
            isFound = true;
            counts[0] = 0;
            counts[1] = 0;
            sums.take(page);
            whole = sums.whole();
            if (sums.count > 0) {
                extend(0, 0, 0L);
            }
        }

        private void extend(int depth, int used, long all) {
            if (depth >= sums.count || depth >= MOST_TERMS) {
                note(0, all - whole);
                note(1, all - whole);
                return;
            }
            for (int i = 0; i < sums.count; i++) {
                if (((used >> i) & 1) == 0) {
                    long next = depth == 0 ? sums.terms[i] : sums.plus(all, sums.terms[i]);
                    if (next != GREAT) {
                        path[depth] = i;
                        extend(depth + 1, used | (1 << i), next);
                    }
                }
            }
        }

        private void note(int most, long lost) {
            if (counts[most] > 0 && lost == losses[most]) {
                counts[most]++;
            } else if (counts[most] == 0 || isPreferred(most, lost, losses[most])) {
                counts[most] = 1;
                losses[most] = lost;
                System.arraycopy(path, 0, firsts[most], 0, MOST_TERMS);
            }
        }

        private static boolean isPreferred(int most, long lost, long than) {
            long far = Math.abs(lost);
            long thanFar = Math.abs(than);
            if (far == thanFar) {
                return lost > than;
            }
            return most == 0 ? far < thanFar : far > thanFar;
        }
    }

    /** Bounds by ends that are rounded outwards, and the truth by all numbers that letters may be. */
    private static final class Spans {
        final long[] low = new long[LONGEST];
        final long[] high = new long[LONGEST];
        final Ratio ratio = new Ratio();
        final Rounding down = new Rounding();
        final Rounding up = new Rounding();
        final Fractions fractions = new Fractions();
        final int[] trial = new int[LETTERS];
        final int[] widths = new int[LETTERS];
        long least = GREAT;
        long greatest = GREAT;
        boolean isFound = false;

        Spans() {
            down.keepsTiny = true;
            up.keepsTiny = true;
        }

        void bound(Page page) {
            down.turn(page.digits, DOWN);
            up.turn(page.digits, UP);
            for (int i = Math.min(page.text.length, LONGEST) - 1; i >= 0; i--) {
                int sign = page.text.signAt(i);
                if (isOperator(sign)) {
                    join(i, sign, page.text.secondOf(i));
                } else {
                    int width = isLetter(sign) ? numberOf(sign, page.spans) : 0;
                    int number = numberOf(sign, page.numbers);
                    ratio.hold(number, 1L, 9);
                    low[i] = down.of(ratio);
                    ratio.hold(number + width, 1L, 9);
                    high[i] = up.of(ratio);
                }
            }
        }

        private void join(int place, int sign, int second) {
            long oneLow = at(low, place + 1);
            long oneHigh = at(high, place + 1);
            long otherLow = at(low, second);
            long otherHigh = at(high, second);
            boolean isGreat = oneLow == GREAT || otherLow == GREAT;
            if (isGreat || (sign == '/' && otherLow <= 0 && otherHigh >= 0)) {
                makeGreat(place);
                return;
            }
            low[place] = Long.MAX_VALUE;
            high[place] = Long.MIN_VALUE;
            boolean areFine = widen(place, sign, oneLow, otherLow);
            areFine &= widen(place, sign, oneLow, otherHigh);
            areFine &= widen(place, sign, oneHigh, otherLow);
            areFine &= widen(place, sign, oneHigh, otherHigh);
            if (!areFine) {
                makeGreat(place);
            }
        }

        private void makeGreat(int place) {
            low[place] = GREAT;
            high[place] = GREAT;
        }

        /** Rounding keeps the order of numbers, so each pair may be rounded before the least, greatest is taken. */
        private boolean widen(int place, int sign, long one, long other) {
            if (!ratio.join(sign, one, other)) {
                return false;
            }
            long below = down.of(ratio);
            long above = up.of(ratio);
            low[place] = Math.min(low[place], below);
            high[place] = Math.max(high[place], above);
            return below != GREAT && above != GREAT;
        }

        void findTruth(Page page) {
            if (isFound) {
                return;
            }
            isFound = true;
            int trials = startTrials(page);
            int changed = EVERY_PART;
            least = GREAT;
            greatest = -GREAT;
            for (int i = 0; i < trials; i++) {
                fractions.workParts(page.text, trial, changed);
                long below = fractions.billionths(0, -1);
                if (below == GREAT) {
                    least = GREAT;
                    greatest = GREAT;
                    return;
                }
                least = Math.min(least, below);
                // what is cut down below the greatest one is not above it when cut up
                if (below >= greatest) {
                    greatest = fractions.billionths(0, 1);
                }
                changed = nextTrial(page.numbers);
            }
        }

        /** Only letters of the text are tried in all their numbers: how many trials that makes. */
        private int startTrials(Page page) {
            int used = page.text.lettersOf(0);
            int trials = 1;
            for (int i = 0; i < LETTERS; i++) {
                trial[i] = page.numbers[i];
                widths[i] = (used & (1 << i)) == 0 ? 0 : page.spans[i];
                trials *= widths[i] + 1;
            }
            return trials;
        }

        /** Counts on like a row of wheels: the letters that have another number now. */
        private int nextTrial(int[] numbers) {
            int changed = 0;
            for (int i = 0; i < LETTERS && i < numbers.length; i++) {
                changed |= 1 << i;
                if (trial[i] < numbers[i] + widths[i]) {
                    trial[i]++;
                    return changed;
                }
                trial[i] = numbers[i];
            }
            return changed;
        }
    }

    /** The rules that rewrite a text at a step. */
    private static final class Rules {
        static boolean suits(Text text, int rule, int step) {
            int sign = text.signAt(step);
            int first = text.signAt(step + 1);
            int second = text.signAt(text.secondOf(step));
            boolean isSumOrProduct = sign == '+' || sign == '*';
            boolean isSumOrDifference = sign == '+' || sign == '-';
            switch (rule) {
                case 0:
                    return isSumOrProduct;
                case 1:
                    return isSumOrProduct && first == sign;
                case 2:
                    return sign == '*' && (second == '+' || second == '-') && hasRoomToSpread(text, step);
                case 3:
                    return isSumOrDifference && first == '*' && second == '*' && sharesFactor(text, step);
                case 4:
                    return sign == '-' && first == '*' && second == '*' && isOfSquares(text, step);
                case 5:
                    return sign == '-' && first == '-';
                case 6:
                    return sign == '/' && second == '/';
                default:
                    return false;
            }
        }

        /** Rule 2 writes one sign more, and x twice. */
        private static boolean hasRoomToSpread(Text text, int step) {
            int size = text.endOf(step + 1) - (step + 1);
            return text.length + 1 + size <= LONGEST;
        }

        private static boolean sharesFactor(Text text, int step) {
            return text.areAlike(step + 2, text.secondOf(step) + 1);
        }

        private static boolean isOfSquares(Text text, int step) {
            int second = text.secondOf(step);
            return text.areAlike(step + 2, text.secondOf(step + 1))
                && text.areAlike(second + 1, text.secondOf(second));
        }

        /** Writes into another text what a rule makes of one; false, if it does not fit. */
        static boolean write(Text from, int rule, int step, Text into) {
            if (!suits(from, rule, step)) {
                return false;
            }
            into.length = 0;
            into.addPlaces(from, 0, step);
            if (rule == 2 || rule == 3 || rule == 4) {
                writeFactors(from, rule, step, into);
            } else {
                writeShift(from, rule, step, into);
            }
            into.addPlaces(from, from.endOf(step), from.length);
            into.findParts();
            return true;
        }

        private static void writeShift(Text from, int rule, int step, Text into) {
            int sign = from.signAt(step);
            int first = step + 1;
            int second = from.secondOf(step);
            into.add(sign);
            if (rule == 0) {
                into.addPart(from, second);
                into.addPart(from, first);
            } else if (rule == 6) {
                into.add('*');
                into.addPart(from, first);
                into.addPart(from, from.secondOf(second));
                into.addPart(from, second + 1);
            } else {
                into.addPart(from, first + 1);
                into.add(rule == 5 ? '+' : sign);
                into.addPart(from, from.secondOf(first));
                into.addPart(from, second);
            }
        }

        private static void writeFactors(Text from, int rule, int step, Text into) {
            int first = step + 1;
            int second = from.secondOf(step);
            if (rule == 2) {
                into.add(from.signAt(second));
                into.add('*');
                into.addPart(from, first);
                into.addPart(from, second + 1);
                into.add('*');
                into.addPart(from, first);
                into.addPart(from, from.secondOf(second));
            } else if (rule == 3) {
                into.add('*');
                into.addPart(from, first + 1);
                into.add(from.signAt(step));
                into.addPart(from, from.secondOf(first));
                into.addPart(from, from.secondOf(second));
            } else {
                into.add('*');
                into.add('-');
                into.addPart(from, first + 1);
                into.addPart(from, second + 1);
                into.add('+');
                into.addPart(from, first + 1);
                into.addPart(from, second + 1);
            }
        }
    }

    /** Of all texts that come by few rules the one that loses least. */
    private static final class Search {
        final Steps steps = new Steps();
        final Text once = new Text();
        final Text twice = new Text();
        final Text best = new Text();
        long bestLoss = GREAT;
        int foundRules = NONE;

        /** Texts of fewer rules are looked at first, and steps before rules, so that of like ones the first stays. */
        void find(Page page, int rules) {
            if (foundRules == rules) {
                return;
            }
            foundRules = rules;
            bestLoss = GREAT;
            steps.rounding.turn(page.digits, page.way);
            consider(page.text, page.numbers);
            for (int depth = 1; depth <= rules && depth <= MOST_RULES; depth++) {
                for (int i = 0; i < page.text.length * RULE_COUNT; i++) {
                    if (Rules.write(page.text, i % RULE_COUNT, i / RULE_COUNT, once)) {
                        if (depth == 1) {
                            consider(once, page.numbers);
                        } else {
                            changeAgain(page.numbers);
                        }
                    }
                }
            }
        }

        private void changeAgain(int[] numbers) {
            for (int i = 0; i < once.length * RULE_COUNT; i++) {
                if (Rules.write(once, i % RULE_COUNT, i / RULE_COUNT, twice)) {
                    consider(twice, numbers);
                }
            }
        }

        private void consider(Text text, int[] numbers) {
            long lost = steps.lossOf(text, numbers);
            if (lost != GREAT && (bestLoss == GREAT || Math.abs(lost) < Math.abs(bestLoss))) {
                bestLoss = lost;
                best.copyFrom(text);
            }
        }
    }
}
