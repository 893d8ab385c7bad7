import java.math.BigInteger;
import java.util.ArrayList;
import java.util.List;
import java.util.Random;

/**
 * Long runs of calls, the same ones each time, on LostDigits and on a slow model of the document that is written
 * another way (big fractions, texts as Strings, all orders and all rewritten texts in lists): each answer is compared.
 */
public final class ModelTests {
    private static int wrong = 0;
    private static long calls = 0;
    private static final int[] SEEN = new int[29];

    public static void main(String[] args) {
        int runs = args.length > 0 ? Integer.parseInt(args[0]) : 200;
        int seed = args.length > 1 ? Integer.parseInt(args[1]) : 1;
        for (int run = 0; run < runs && wrong < 20; run++) {
            new Run(new Random(seed * 1000003L + run), run).go();
        }
        for (int i = 0; i < 28; i++) {
            if (SEEN[i] == 0) {
                wrong++;
                System.out.println("the call number " + i + " was never made");
            }
        }
        System.out.println(calls + " calls compared with the model, " + wrong + " wrong");
        if (wrong != 0) {
            System.exit(1);
        }
    }

    /** One new object and one new model, and up to 512 calls on both. */
    private static final class Run {
        final Random random;
        final int number;
        final LostDigits real = new LostDigits();
        final Model model = new Model();
        final List<String> log = new ArrayList<>();
        /** How often texts, sums and spans are asked for in this run. */
        final int taste;

        Run(Random random, int number) {
            this.random = random;
            this.number = number;
            this.taste = random.nextInt(4);
        }

        void go() {
            if (random.nextInt(3) > 0) {
                sayText();
            }
            for (int i = 0; i < 120 && wrong < 20 && log.size() < 480; i++) {
                call(choose());
            }
        }

        int choose() {
            int kind = random.nextInt(100);
            if (kind < 12) {
                sayText();
            }
            if (kind < 25 && taste == 1) {
                return 14;
            }
            if (kind < 30 && taste != 1) {
                return random.nextInt(3) == 0 ? 22 + random.nextInt(4) : 9 + random.nextInt(5);
            }
            if (kind < 40) {
                return 7;
            }
            if (kind < 45) {
                return 28;
            }
            return random.nextInt(28);
        }

        int pick(int from, int to) {
            return from + random.nextInt(to - from + 1);
        }

        /** Mostly a small number, seldom a wild one. */
        int arg(int from, int to) {
            int kind = random.nextInt(40);
            if (kind == 0) {
                return random.nextInt();
            }
            if (kind == 1) {
                return random.nextBoolean() ? Integer.MIN_VALUE : Integer.MAX_VALUE;
            }
            if (kind == 2) {
                return random.nextBoolean() ? from - 1 : to + 1;
            }
            return pick(from, to);
        }

        void check(int id, String call, long got, long due) {
            calls++;
            SEEN[id]++;
            log.add(call + " = " + due);
            if (got != due) {
                wrong++;
                System.out.println("run " + number + ": " + call + " answered " + got + ", due is " + due);
                System.out.println("   text " + model.now.text + " digits " + model.now.digits + " way " + model.now.way
                    + " letters " + java.util.Arrays.toString(model.now.numbers)
                    + " spans " + java.util.Arrays.toString(model.now.spans) + " terms " + model.now.terms);
            }
        }

        void sayText() {
            String text = randomText(pick(0, 6));
            check(4, "wipe()", real.wipe(), model.wipe());
            for (int i = 0; i < text.length(); i++) {
                int sign = text.charAt(i);
                check(3, "say(" + sign + ")", real.say(sign), model.say(sign));
            }
            check(6, "text()", real.text(), model.text());
        }

        String randomText(int operators) {
            if (operators == 0) {
                return random.nextInt(4) == 0 ? "" + random.nextInt(10) : "" + (char) ('a' + random.nextInt(5));
            }
            int first = random.nextInt(operators);
            String one = randomText(first);
            String other = randomText(operators - 1 - first);
            if (random.nextInt(5) == 0 && first == operators - 1 - first) {
                other = one;
            }
            return "+-*/+-*".charAt(random.nextInt(7)) + one + other;
        }

        long randomTerm() {
            long tens = 1;
            int power = random.nextInt(18);
            for (int i = 0; i < power; i++) {
                tens *= 10;
            }
            long value = (long) (random.nextDouble() * tens);
            if (random.nextInt(3) == 0) {
                value = (random.nextInt(9) + 1) * (tens > 1 ? tens / 10 : 1);
            }
            if (random.nextInt(40) == 0) {
                long[] edges = {0, 1, 999, 1000, 1001, 9999999999999999L, 10000000000000000L, 9990000000000000L,
                    9999000000000000L, 9994999999999999L, 9995000000000000L, Long.MAX_VALUE};
                value = edges[random.nextInt(edges.length)];
            }
            value = random.nextBoolean() ? value : -value;
            return random.nextInt(200) == 0 ? Long.MIN_VALUE : value;
        }

        int someSign() {
            if (random.nextInt(8) == 0) {
                return arg(33, 126);
            }
            String signs = "++-*/abcdeabcde0123456789";
            return signs.charAt(random.nextInt(signs.length()));
        }

        void call(int id) {
            if (id == 14 && taste != 1 && random.nextInt(3) > 0) {
                return;
            }
            if (id < 14) {
                callFirst(id);
            } else {
                callSecond(id);
            }
        }

        void callFirst(int id) {
            int a = 0;
            int b = 0;
            int c = 0;
            switch (id) {
                case 0 -> {
                    a = arg(0, 1);
                    b = a == 0 ? arg(1, 4) : arg(0, 3);
                    check(id, "set(" + a + ", " + b + ")", real.set(a, b), model.set(a, b));
                }
                case 1 -> callRound();
                case 2, 3 -> {
                    a = someSign();
                    check(3, "say(" + a + ")", real.say(a), model.say(a));
                    SEEN[2]++;
                }
                case 4 -> check(id, "wipe()", real.wipe(), model.wipe());
                case 5 -> check(id, "fault()", real.fault(), model.fault());
                case 6 -> check(id, "text()", real.text(), model.text());
                case 7 -> {
                    a = arg(0, 4);
                    b = arg(0, 1);
                    c = b == 1 ? arg(0, 5) : random.nextInt(3) == 0 ? arg(-6, 6) : arg(-99, 99);
                    check(id, "put(" + a + ", " + b + ", " + c + ")", real.put(a, b, c), model.put(a, b, c));
                }
                case 8 -> {
                    a = arg(0, 13);
                    check(id, "sign(" + a + ")", real.sign(a), model.sign(a));
                }
                case 9 -> {
                    a = random.nextInt(6) == 0 ? arg(0, 13) : random.nextInt(model.now.text.length());
                    b = arg(0, 2);
                    check(id, "worked(" + a + ", " + b + ")", real.worked(a, b), model.worked(a, b));
                }
                case 10 -> {
                    a = arg(0, 1);
                    check(id, "exact(" + a + ")", real.exact(a), model.exact(a));
                }
                case 11 -> check(id, "loss()", real.loss(), model.loss());
                case 12 -> check(id, "worst()", real.worst(), model.worst());
                default -> {
                    long trust = Math.abs(randomTerm()) / (1 + random.nextInt(1000));
                    trust = random.nextInt(12) == 0 ? randomTerm() : trust;
                    check(13, "needs(" + trust + ")", real.needs(trust), model.needs(trust));
                }
            }
        }

        void callRound() {
            int upper = arg(-1000000, 1000000);
            int lower = random.nextInt(3) == 0 ? arg(1, 1000000) : arg(1, 30);
            if (random.nextInt(3) == 0) {
                upper = arg(-20000, 20000);
                lower = (int) Math.pow(10, random.nextInt(7)) * (random.nextBoolean() ? 1 : 2);
            }
            int power = arg(-9, 9);
            check(1, "round(" + upper + ", " + lower + ", " + power + ")", real.round(upper, lower, power),
                model.round(upper, lower, power));
        }

        void callSecond(int id) {
            int a = 0;
            int b = 0;
            switch (id) {
                case 14 -> {
                    long v = randomTerm();
                    check(id, "term(" + v + ")", real.term(v), model.term(v));
                }
                case 15 -> {
                    if (random.nextInt(4) == 0) {
                        check(id, "clear()", real.clear(), model.clear());
                    }
                }
                case 16 -> {
                    a = arg(0, 7);
                    check(id, "about(" + a + ")", real.about(a), model.about(a));
                }
                case 17 -> {
                    a = arg(0, 4);
                    check(id, "sum(" + a + ")", real.sum(a), model.sum(a));
                }
                case 18 -> {
                    a = arg(0, 1);
                    check(id, "orders(" + a + ")", real.orders(a), model.orders(a));
                }
                case 19 -> {
                    a = arg(0, 1);
                    b = arg(-3, 9);
                    check(id, "order(" + a + ", " + b + ")", real.order(a, b), model.order(a, b));
                }
                case 20 -> {
                    a = arg(0, 1);
                    check(id, "bounds(" + a + ")", real.bounds(a), model.bounds(a));
                }
                case 21 -> {
                    a = arg(0, 1);
                    check(id, "truth(" + a + ")", real.truth(a), model.truth(a));
                }
                default -> callThird(id);
            }
        }

        void callThird(int id) {
            int a = 0;
            int b = 0;
            switch (id) {
                case 22, 23 -> {
                    a = arg(0, 6);
                    b = random.nextInt(6) == 0 ? arg(0, 13) : random.nextInt(model.now.text.length());
                    if (id == 22) {
                        check(id, "fits(" + a + ", " + b + ")", real.fits(a, b), model.fits(a, b));
                    } else {
                        check(id, "change(" + a + ", " + b + ")", real.change(a, b), model.change(a, b));
                        for (int i = 0; i < model.now.text.length(); i++) {
                            check(8, "sign(" + i + ")", real.sign(i), model.sign(i));
                        }
                    }
                }
                case 24 -> {
                    a = arg(0, 2);
                    check(id, "better(" + a + ")", real.better(a), model.better(a));
                }
                case 25 -> {
                    a = arg(0, 2);
                    for (int i = -1; i < 4; i++) {
                        b = i < 0 ? -1 : arg(-3, 15);
                        check(id, "betterSign(" + a + ", " + b + ")", real.betterSign(a, b), model.betterSign(a, b));
                    }
                }
                case 26 -> {
                    a = arg(0, 1);
                    if (random.nextInt(3) == 0) {
                        check(id, "image(" + a + ")", real.image(a), model.image(a));
                    }
                }
                case 27 -> {
                    a = arg(0, 1);
                    if (random.nextInt(3) == 0) {
                        check(id, "restore(" + a + ")", real.restore(a), model.restore(a));
                    }
                }
                default -> {
                    a = arg(0, 24);
                    check(28, "told(" + a + ")", real.told(a), model.told(a));
                }
            }
        }
    }

    /** A fraction; null stands for GREAT everywhere in the model. */
    private record Part(BigInteger upper, BigInteger lower) {
        static Part of(BigInteger upper, BigInteger lower) {
            BigInteger shared = upper.gcd(lower);
            if (lower.signum() < 0) {
                shared = shared.negate();
            }
            return new Part(upper.divide(shared), lower.divide(shared));
        }

        static Part of(long number) {
            return new Part(BigInteger.valueOf(number), BigInteger.ONE);
        }

        static Part billionths(long number) {
            return of(BigInteger.valueOf(number), BigInteger.valueOf(1000000000L));
        }

        static Part tens(int power) {
            BigInteger ten = BigInteger.TEN.pow(Math.abs(power));
            return power < 0 ? new Part(BigInteger.ONE, ten) : new Part(ten, BigInteger.ONE);
        }

        Part plus(Part o) {
            return of(upper.multiply(o.lower).add(o.upper.multiply(lower)), lower.multiply(o.lower));
        }

        Part less(Part o) {
            return plus(new Part(o.upper.negate(), o.lower));
        }

        Part times(Part o) {
            return of(upper.multiply(o.upper), lower.multiply(o.lower));
        }

        /** null for a quotient by 0. */
        Part by(Part o) {
            return o.upper.signum() == 0 ? null : of(upper.multiply(o.lower), lower.multiply(o.upper));
        }

        Part far() {
            return new Part(upper.abs(), lower);
        }

        int compare(Part o) {
            return upper.multiply(o.lower).compareTo(o.upper.multiply(lower));
        }

        BigInteger floor() {
            BigInteger[] parts = upper.divideAndRemainder(lower);
            return parts[1].signum() < 0 ? parts[0].subtract(BigInteger.ONE) : parts[0];
        }

        BigInteger ceiling() {
            return new Part(upper.negate(), lower).floor().negate();
        }

        BigInteger cut() {
            return upper.signum() < 0 ? ceiling() : floor();
        }
    }

    private static final class State {
        String text = "a";
        int[] numbers = {1, 1, 1, 1, 1};
        int[] spans = new int[5];
        List<Long> terms = new ArrayList<>();
        int digits = 3;
        int way = 0;

        State copy() {
            State s = new State();
            s.text = text;
            s.numbers = numbers.clone();
            s.spans = spans.clone();
            s.terms = new ArrayList<>(terms);
            s.digits = digits;
            s.way = way;
            return s;
        }
    }

    /** The document, word for word and slowly. */
    private static final class Model {
        static final long LOST = -1000000000000000000L;
        static final long GREAT = 1000000000000000000L;
        static final int UNKNOWN = -1;
        static final int OUTSIDE = -2;
        static final int NONE = -6;
        static final Part LIMIT = Part.of(10000000L);
        static final Part LEAST = Part.tens(-6);
        static final Part BILLION = Part.of(1000000000L);

        State now = new State();
        State[] images = new State[2];
        String pad = "";

        static boolean in(long v, long from, long to) {
            return v >= from && v <= to;
        }

        // decimals

        static Part rounded(Part x, int digits, int way, boolean forBounds) {
            if (x == null || x.upper().signum() == 0) {
                return x;
            }
            // starts from a place that is surely too low
            int place = (int) ((x.upper().bitLength() - x.lower().bitLength()) * 0.30103) - 3;
            while (Part.tens(place + 1).compare(x.far()) <= 0) {
                place++;
            }
            Part unit = Part.tens(place - digits + 1);
            Part many = x.by(unit);
            BigInteger down = many.floor();
            BigInteger up = many.ceiling();
            BigInteger taken = switch (way) {
                case 1 -> many.cut();
                case 2 -> up;
                case 3 -> down;
                default -> nearest(many, down, up);
            };
            Part answer = Part.of(taken, BigInteger.ONE).times(unit);
            if (answer.far().compare(LIMIT) >= 0) {
                return null;
            }
            if (answer.far().compare(LEAST) < 0) {
                boolean isOut = forBounds && (x.upper().signum() > 0 ? way == 2 : way == 3);
                return !isOut ? Part.of(0) : x.upper().signum() > 0 ? LEAST : Part.of(0).less(LEAST);
            }
            return answer;
        }

        static BigInteger nearest(Part many, BigInteger down, BigInteger up) {
            Part below = many.less(Part.of(down, BigInteger.ONE));
            Part above = Part.of(up, BigInteger.ONE).less(many);
            int order = below.compare(above);
            if (order != 0) {
                return order < 0 ? down : up;
            }
            return down.testBit(0) ? up : down;
        }

        static long whole(Part x) {
            return x == null ? GREAT : x.times(BILLION).cut().longValueExact();
        }

        int set(int which, int v) {
            if (which == 0 && in(v, 1, 4)) {
                int was = now.digits;
                now.digits = v;
                return was;
            }
            if (which == 1 && in(v, 0, 3)) {
                int was = now.way;
                now.way = v;
                return was;
            }
            return OUTSIDE;
        }

        long round(int upper, int lower, int power) {
            if (!in(upper, -1000000, 1000000) || !in(lower, 1, 1000000) || !in(power, -9, 9)) {
                return LOST - 2;
            }
            Part x = Part.of(upper).by(Part.of(lower)).times(Part.tens(power));
            return whole(rounded(x, now.digits, now.way, false));
        }

        // texts

        int say(int sign) {
            if (!in(sign, 33, 126)) {
                return OUTSIDE;
            }
            if (pad.length() >= 20) {
                return -4;
            }
            pad = pad + (char) sign;
            return pad.length();
        }

        int wipe() {
            int was = pad.length();
            pad = "";
            return was;
        }

        /** The place behind the text that begins at a place; below 0: the place of the fault, less 1000. */
        static int parse(String s, int place) {
            if (place >= s.length() || place >= 13) {
                return Math.min(place, s.length()) - 1000;
            }
            char c = s.charAt(place);
            if ("abcde0123456789".indexOf(c) >= 0) {
                return place + 1;
            }
            if ("+-*/".indexOf(c) < 0) {
                return place - 1000;
            }
            int middle = parse(s, place + 1);
            return middle < 0 ? middle : parse(s, middle);
        }

        int fault() {
            int end = parse(pad, 0);
            if (end < 0) {
                return end + 1000;
            }
            return end < pad.length() ? end : NONE;
        }

        int text() {
            if (fault() != NONE) {
                return -5;
            }
            now.text = pad;
            pad = "";
            return now.text.length();
        }

        int sign(int step) {
            return in(step, 0, now.text.length() - 1) ? now.text.charAt(step) : UNKNOWN;
        }

        int put(int letter, int what, int v) {
            if (!in(letter, 0, 4) || !in(what, 0, 1)) {
                return OUTSIDE;
            }
            if (what == 0 ? !in(v, -99, 99) : !in(v, 0, 5)) {
                return OUTSIDE;
            }
            int was = what == 0 ? now.numbers[letter] + 100 : now.spans[letter];
            (what == 0 ? now.numbers : now.spans)[letter] = v;
            return was;
        }

        // worked

        static String part(String s, int place) {
            return s.substring(place, parse(s, place));
        }

        static String one(String s) {
            return part(s, 1);
        }

        static String other(String s) {
            return part(s, 1 + one(s).length());
        }

        static Part join(char sign, Part a, Part b) {
            if (a == null || b == null) {
                return null;
            }
            return switch (sign) {
                case '+' -> a.plus(b);
                case '-' -> a.less(b);
                case '*' -> a.times(b);
                default -> a.by(b);
            };
        }

        static int leaf(String s, int[] numbers) {
            char c = s.charAt(0);
            return c <= '9' ? c - '0' : numbers[c - 'a'];
        }

        static Part exactly(String s, int[] numbers) {
            if (s.length() == 1) {
                return Part.of(leaf(s, numbers));
            }
            return join(s.charAt(0), exactly(one(s), numbers), exactly(other(s), numbers));
        }

        /** A step without rounding, of parts that are worked. */
        Part unrounded(String s, int digits) {
            if (s.length() == 1) {
                return Part.of(leaf(s, now.numbers));
            }
            return join(s.charAt(0), work(one(s), digits), work(other(s), digits));
        }

        Part work(String s, int digits) {
            return rounded(unrounded(s, digits), digits, now.way, false);
        }

        static long exactBillionths(Part x) {
            return x == null || x.far().compare(LIMIT) >= 0 ? GREAT : whole(x);
        }

        long slip(String s) {
            Part came = work(s, now.digits);
            return came == null ? GREAT : whole(came) - whole(unrounded(s, now.digits));
        }

        long worked(int step, int what) {
            if (!in(step, 0, now.text.length() - 1)) {
                return LOST - 1;
            }
            if (!in(what, 0, 2)) {
                return LOST - 2;
            }
            String s = part(now.text, step);
            if (what == 0) {
                return whole(work(s, now.digits));
            }
            return what == 1 ? exactBillionths(exactly(s, now.numbers)) : slip(s);
        }

        long exact(int part) {
            if (!in(part, 0, 1)) {
                return LOST - 2;
            }
            Part x = exactly(now.text, now.numbers);
            return x == null ? GREAT : (part == 0 ? x.upper() : x.lower()).longValueExact();
        }

        long lossOf(String s, int digits) {
            Part came = work(s, digits);
            long due = exactBillionths(exactly(s, now.numbers));
            return came == null || due == GREAT ? GREAT : whole(came) - due;
        }

        long loss() {
            return lossOf(now.text, now.digits);
        }

        int worst() {
            if (work(now.text, now.digits) == null) {
                return -3;
            }
            int found = NONE;
            for (int i = now.text.length() - 1; i >= 0; i--) {
                long far = Math.abs(slip(part(now.text, i)));
                if (far > 0 && (found == NONE || far >= Math.abs(slip(part(now.text, found))))) {
                    found = i;
                }
            }
            return found;
        }

        int needs(long trust) {
            if (trust < 0) {
                return OUTSIDE;
            }
            int found = NONE;
            for (int d = 4; d >= 1; d--) {
                long lost = lossOf(now.text, d);
                if (lost != GREAT && Math.abs(lost) <= trust) {
                    found = d;
                }
            }
            return found;
        }

        // sums

        int term(long v) {
            if (v <= -10000000000000000L || v >= 10000000000000000L) {
                return OUTSIDE;
            }
            Part t = rounded(Part.billionths(v), now.digits, now.way, false);
            if (t == null) {
                return OUTSIDE;
            }
            if (now.terms.size() == 7) {
                return -4;
            }
            now.terms.add(whole(t));
            return now.terms.size();
        }

        int clear() {
            int was = now.terms.size();
            now.terms.clear();
            return was;
        }

        long about(int term) {
            return in(term, 0, now.terms.size() - 1) ? now.terms.get(term) : LOST - 1;
        }

        Part add(Part a, Part b) {
            return a == null || b == null ? null : rounded(a.plus(b), now.digits, now.way, false);
        }

        Part take(Part a, Part b) {
            return a == null || b == null ? null : rounded(a.less(b), now.digits, now.way, false);
        }

        Part inOrder(List<Long> list) {
            Part all = Part.billionths(list.get(0));
            for (Long t : list.subList(1, list.size())) {
                all = add(all, Part.billionths(t));
            }
            return all;
        }

        Part beside() {
            Part s = Part.of(0);
            Part c = Part.of(0);
            for (Long t : now.terms) {
                Part y = take(Part.billionths(t), c);
                Part z = add(s, y);
                c = take(take(z, s), y);
                s = c == null ? null : z;
            }
            return s;
        }

        Part halves(List<Long> list) {
            if (list.size() == 1) {
                return Part.billionths(list.get(0));
            }
            int half = list.size() - list.size() / 2;
            return add(halves(list.subList(0, half)), halves(list.subList(half, list.size())));
        }

        Part bySize() {
            List<Long> list = new ArrayList<>(now.terms);
            list.sort((a, b) -> Long.compare(Math.abs(a), Math.abs(b)));
            return inOrder(list);
        }

        long wholeSum() {
            long all = 0;
            for (Long t : now.terms) {
                all += t;
            }
            return all;
        }

        long sum(int how) {
            if (!in(how, 0, 4)) {
                return LOST - 2;
            }
            if (now.terms.isEmpty()) {
                return LOST - 6;
            }
            return switch (how) {
                case 0 -> whole(inOrder(now.terms));
                case 1 -> whole(beside());
                case 2 -> whole(halves(now.terms));
                case 3 -> whole(bySize());
                default -> wholeSum();
            };
        }

        static void arrange(List<Integer> head, int n, List<List<Integer>> into) {
            if (head.size() == n) {
                into.add(new ArrayList<>(head));
            }
            for (int i = 0; i < n; i++) {
                if (!head.contains(i)) {
                    head.add(i);
                    arrange(head, n, into);
                    head.remove(head.size() - 1);
                }
            }
        }

        String madeFor = "";
        List<List<Integer>> ways = new ArrayList<>();
        List<Long> waysLosses = new ArrayList<>();

        /** All orders that are not GREAT on the way, with their losses. */
        void makeOrders() {
            String key = now.terms + " " + now.digits + " " + now.way;
            if (key.equals(madeFor)) {
                return;
            }
            madeFor = key;
            ways = new ArrayList<>();
            waysLosses = new ArrayList<>();
            List<List<Integer>> all = new ArrayList<>();
            if (!now.terms.isEmpty()) {
                arrange(new ArrayList<>(), now.terms.size(), all);
            }
            for (List<Integer> way : all) {
                List<Long> list = new ArrayList<>();
                for (Integer i : way) {
                    list.add(now.terms.get(i));
                }
                Part came = inOrder(list);
                if (came != null) {
                    ways.add(way);
                    waysLosses.add(whole(came) - wholeSum());
                }
            }
        }

        long chosen(int most) {
            long far = -1;
            for (Long lost : waysLosses) {
                long f = Math.abs(lost);
                far = far < 0 ? f : most == 0 ? Math.min(far, f) : Math.max(far, f);
            }
            return waysLosses.contains(far) ? far : -far;
        }

        long orders(int most) {
            if (!in(most, 0, 1)) {
                return LOST - 2;
            }
            makeOrders();
            return ways.isEmpty() ? LOST - 6 : chosen(most);
        }

        int order(int most, int i) {
            if (!in(most, 0, 1)) {
                return OUTSIDE;
            }
            makeOrders();
            if (ways.isEmpty() || !in(i, -1, now.terms.size() - 1)) {
                return NONE;
            }
            long lost = chosen(most);
            if (i >= 0) {
                return ways.get(waysLosses.indexOf(lost)).get(i);
            }
            int count = 0;
            for (Long l : waysLosses) {
                count += l == lost ? 1 : 0;
            }
            return count;
        }

        // spans

        /** The two ends; null for GREAT. */
        Part[] ends(String s) {
            if (s.length() == 1) {
                int number = leaf(s, now.numbers);
                int more = s.charAt(0) >= 'a' ? leaf(s, now.spans) : 0;
                return outwards(Part.of(number), Part.of(number + more));
            }
            Part[] a = ends(one(s));
            Part[] b = ends(other(s));
            if (a == null || b == null) {
                return null;
            }
            switch (s.charAt(0)) {
                case '+':
                    return outwards(a[0].plus(b[0]), a[1].plus(b[1]));
                case '-':
                    return outwards(a[0].less(b[1]), a[1].less(b[0]));
                default:
                    break;
            }
            if (s.charAt(0) == '/' && b[0].upper().signum() <= 0 && b[1].upper().signum() >= 0) {
                return null;
            }
            Part least = null;
            Part greatest = null;
            for (Part x : a) {
                for (Part y : b) {
                    Part v = join(s.charAt(0), x, y);
                    least = least == null || v.compare(least) < 0 ? v : least;
                    greatest = greatest == null || v.compare(greatest) > 0 ? v : greatest;
                }
            }
            return outwards(least, greatest);
        }

        Part[] outwards(Part least, Part greatest) {
            Part down = rounded(least, now.digits, 3, true);
            Part up = rounded(greatest, now.digits, 2, true);
            return down == null || up == null ? null : new Part[] {down, up};
        }

        long bounds(int end) {
            if (!in(end, 0, 1)) {
                return LOST - 2;
            }
            Part[] both = ends(now.text);
            return both == null ? GREAT : whole(both[end]);
        }

        Part least;
        Part greatest;
        boolean isGreat;

        void tryAll(int letter, int[] numbers) {
            if (isGreat) {
                return;
            }
            if (letter == 5) {
                Part x = exactly(now.text, numbers);
                if (exactBillionths(x) == GREAT) {
                    isGreat = true;
                    return;
                }
                least = least == null || x.compare(least) < 0 ? x : least;
                greatest = greatest == null || x.compare(greatest) > 0 ? x : greatest;
                return;
            }
            int more = now.text.indexOf('a' + letter) >= 0 ? now.spans[letter] : 0;
            for (int i = 0; i <= more; i++) {
                int[] next = numbers.clone();
                next[letter] += i;
                tryAll(letter + 1, next);
            }
        }

        long truth(int end) {
            if (!in(end, 0, 1)) {
                return LOST - 2;
            }
            least = null;
            greatest = null;
            isGreat = false;
            tryAll(0, now.numbers);
            if (isGreat) {
                return GREAT;
            }
            return end == 0 ? least.times(BILLION).floor().longValueExact()
                : greatest.times(BILLION).ceiling().longValueExact();
        }

        // rules

        /** What a rule makes of a part; null, if it does not fit. */
        static String made(String s, int rule) {
            if (s.length() == 1) {
                return null;
            }
            char c = s.charAt(0);
            String x = one(s);
            String y = other(s);
            char d = x.charAt(0);
            char e = y.charAt(0);
            boolean isBoth = d == '*' && e == '*';
            switch (rule) {
                case 0:
                    return c == '+' || c == '*' ? c + y + x : null;
                case 1:
                    return (c == '+' || c == '*') && d == c ? c + one(x) + c + other(x) + y : null;
                case 2:
                    return c == '*' && (e == '+' || e == '-') ? e + "*" + x + one(y) + "*" + x + other(y) : null;
                case 3:
                    return (c == '+' || c == '-') && isBoth && one(x).equals(one(y))
                        ? "*" + one(x) + c + other(x) + other(y) : null;
                case 4:
                    return c == '-' && isBoth && one(x).equals(other(x)) && one(y).equals(other(y))
                        ? "*-" + one(x) + one(y) + "+" + one(x) + one(y) : null;
                case 5:
                    return c == '-' && d == '-' ? "-" + one(x) + "+" + other(x) + y : null;
                default:
                    return c == '/' && e == '/' ? "/*" + x + other(y) + one(y) : null;
            }
        }

        static String changed(String s, int rule, int step) {
            String part = part(s, step);
            String made = made(part, rule);
            if (made == null) {
                return null;
            }
            String all = s.substring(0, step) + made + s.substring(step + part.length());
            return all.length() > 13 ? null : all;
        }

        int fits(int rule, int step) {
            if (!in(step, 0, now.text.length() - 1)) {
                return UNKNOWN;
            }
            if (!in(rule, 0, 6)) {
                return OUTSIDE;
            }
            return changed(now.text, rule, step) == null ? 0 : 1;
        }

        int change(int rule, int step) {
            int fit = fits(rule, step);
            if (fit < 1) {
                return fit == 0 ? -5 : fit;
            }
            now.text = changed(now.text, rule, step);
            return now.text.length();
        }

        static List<String> changedAll(List<String> texts) {
            List<String> all = new ArrayList<>();
            for (String s : texts) {
                for (int step = 0; step < s.length(); step++) {
                    for (int rule = 0; rule < 7; rule++) {
                        String t = changed(s, rule, step);
                        if (t != null) {
                            all.add(t);
                        }
                    }
                }
            }
            return all;
        }

        /** The text that BETTER finds; null, if all are GREAT. */
        String best(int rules) {
            List<String> all = new ArrayList<>();
            List<String> layer = List.of(now.text);
            all.addAll(layer);
            for (int i = 0; i < rules; i++) {
                layer = changedAll(layer);
                all.addAll(layer);
            }
            String found = null;
            long far = 0;
            for (String s : all) {
                long lost = lossOf(s, now.digits);
                if (lost != GREAT && (found == null || Math.abs(lost) < far)) {
                    found = s;
                    far = Math.abs(lost);
                }
            }
            return found;
        }

        long better(int rules) {
            if (!in(rules, 0, 2)) {
                return LOST - 2;
            }
            String s = best(rules);
            return s == null ? LOST - 6 : lossOf(s, now.digits);
        }

        int betterSign(int rules, int i) {
            if (!in(rules, 0, 2)) {
                return OUTSIDE;
            }
            String s = best(rules);
            if (s == null || !in(i, -1, s.length() - 1)) {
                return NONE;
            }
            return i < 0 ? s.length() : s.charAt(i);
        }

        int image(int n) {
            if (!in(n, 0, 1)) {
                return OUTSIDE;
            }
            images[n] = now.copy();
            return 1;
        }

        int restore(int n) {
            if (!in(n, 0, 1)) {
                return OUTSIDE;
            }
            if (images[n] == null) {
                return -3;
            }
            now = images[n].copy();
            return 1;
        }

        int told(int what) {
            if (in(what, 10, 14)) {
                return now.numbers[what - 10] + 100;
            }
            if (in(what, 20, 24)) {
                return now.spans[what - 20];
            }
            return switch (what) {
                case 0 -> pad.length();
                case 1 -> now.text.length();
                case 2 -> now.digits;
                case 3 -> now.way;
                case 4 -> now.terms.size();
                default -> OUTSIDE;
            };
        }
    }
}
