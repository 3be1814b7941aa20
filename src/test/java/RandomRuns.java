import java.math.BigInteger;
import java.util.ArrayList;
import java.util.Arrays;
import java.util.Comparator;
import java.util.HashSet;
import java.util.List;
import java.util.Random;
import java.util.Set;
import java.util.TreeMap;
import java.util.concurrent.Callable;
import java.util.regex.Matcher;
import java.util.regex.Pattern;

/** Random calls, the same ones every time, answered by FaultRules and by a slow model of the document. */
public final class RandomRuns {
    private static final int OBJECTS = 1500;
    private static final int CALLS = 512;
    private static int wrong = 0;

    /** The document's words, one by one, without any care for time or room. */
    private static final class Model {
        record Test(String kind, int first, int second, int number) { }

        record Rule(String name, List<Test> tests, int span, int cost) { }

        record Fault(int rule, String name, int begin, int end, int cost) { }

        static final Pattern WORD = Pattern.compile("p(?![a-z])[0-9]*|[a-z]+|[0-9]+|<=|>=|[^ ]");
        static final Set<String> RELATIONS = Set.of("<", "<=", "=", ">=", ">");
        static final Set<String> KEYWORDS = Set.of("for", "costs", "stuck", "jump", "silent");

        final List<TreeMap<Integer, Integer>> rows = new ArrayList<>();
        final Set<Integer> leftOut = new HashSet<>();
        final int[] brought = new int[10];
        String text = "";
        List<Rule> rules = new ArrayList<>();
        List<Fault> faults = null;
        int[] held;

        List<String> words;
        int at;

        Model() {
            for (int k = 0; k < 16; k++) {
                rows.add(new TreeMap<>());
            }
        }

        static void argument(boolean ok) {
            if (!ok) {
                throw new IllegalArgumentException();
            }
        }

        static void state(boolean ok) {
            if (!ok) {
                throw new IllegalStateException();
            }
        }

        static boolean in(int x, int low, int high) {
            return low <= x && x <= high;
        }

        int row(int point, int minute, int value) {
            argument(in(point, 0, 15) && in(minute, 0, 100000) && in(value, -1000000, 1000000));
            int all = 0;
            for (TreeMap<Integer, Integer> r : rows) {
                all += r.size();
            }
            TreeMap<Integer, Integer> mine = rows.get(point);
            state(all < 120 && (mine.isEmpty() || mine.lastKey() < minute));
            mine.put(minute, value);
            return mine.size();
        }

        Integer has(int point, int minute) {
            return rows.get(point).floorKey(minute) == null ? null : rows.get(point).floorEntry(minute).getValue();
        }

        int value(int point, int minute) {
            argument(in(point, 0, 15) && in(minute, 0, 100000) && has(point, minute) != null);
            return has(point, minute);
        }

        int say(long word) {
            StringBuilder more = new StringBuilder();
            for (byte b : BigInteger.valueOf(word).toByteArray()) {
                argument(b == 0 || b >= 32 && b <= 126);
                if (b != 0) {
                    more.append((char) b);
                }
            }
            state(text.length() + more.length() <= 1000);
            text += more;
            return text.length();
        }

        int trim(int n) {
            argument(in(n, 0, text.length()));
            text = text.substring(0, text.length() - n);
            return text.length();
        }

        int rules() {
            words = new ArrayList<>();
            Matcher m = WORD.matcher(text);
            while (m.find()) {
                words.add(m.group());
            }
            at = 0;
            List<Rule> all = new ArrayList<>();
            try {
                while (at < words.size()) {
                    state(all.size() < 6);
                    all.add(readRule(all));
                }
            } catch (IllegalStateException e) {
                return -1 - at;
            }
            rules = all;
            text = "";
            faults = null;
            return rules.size();
        }

        String peek() {
            return at < words.size() ? words.get(at) : "";
        }

        String take(boolean ok) {
            state(ok);
            return words.get(at++);
        }

        void take(String word) {
            take(peek().equals(word));
        }

        int takeNumber(int low, int high) {
            boolean ok = peek().matches("[0-9]{1,7}");
            return Integer.parseInt(take(ok && in(Integer.parseInt(peek()), low, high)));
        }

        int takePoint() {
            boolean ok = peek().matches("p[0-9]{1,2}");
            return Integer.parseInt(take(ok && Integer.parseInt(peek().substring(1)) < 16).substring(1));
        }

        Rule readRule(List<Rule> before) {
            boolean fresh = true;
            for (Rule r : before) {
                fresh &= !r.name.equals(peek());
            }
            String name = take(fresh && peek().matches("[a-z]{1,8}") && !peek().equals("p") && !KEYWORDS.contains(peek()));
            take(":");
            List<Test> tests = new ArrayList<>();
            tests.add(readTest());
            while (tests.size() < 6 && peek().equals("&")) {
                take("&");
                tests.add(readTest());
            }
            take("for");
            int span = takeNumber(1, 9999);
            take("costs");
            int cost = takeNumber(1, 9999);
            take(";");
            return new Rule(name, tests, span, cost);
        }

        Test readTest() {
            if (Set.of("stuck", "jump", "silent").contains(peek())) {
                return new Test(words.get(at++), takePoint(), -1, takeNumber(0, 1000000));
            }
            int first = takePoint();
            int second = -1;
            if (peek().equals("-")) {
                take("-");
                second = takePoint();
            }
            String relation = take(RELATIONS.contains(peek()));
            int sign = 1;
            if (peek().equals("-")) {
                take("-");
                sign = -1;
            }
            return new Test(relation, first, second, sign * takeNumber(0, 1000000));
        }

        boolean testHolds(Test t, int minute) {
            TreeMap<Integer, Integer> known = new TreeMap<>(rows.get(t.first).headMap(minute, true));
            switch (t.kind) {
                case "stuck": return !known.isEmpty() && minute - known.lastKey() >= t.number;
                case "silent": return known.isEmpty() || minute - known.lastKey() > t.number;
                case "jump":
                    if (known.size() < 2 || known.lastKey() != minute) {
                        return false;
                    }
                    int latest = known.pollLastEntry().getValue();
                    return Math.abs(latest - known.lastEntry().getValue()) > t.number;
                default:
            }
            if (known.isEmpty() || t.second >= 0 && has(t.second, minute) == null) {
                return false;
            }
            int x = has(t.first, minute) - (t.second < 0 ? 0 : has(t.second, minute));
            int order = Integer.compare(x, t.number);
            return order < 0 && t.kind.startsWith("<") || order == 0 && t.kind.endsWith("=") || order > 0 && t.kind.startsWith(">");
        }

        int run(int from, int to) {
            argument(from >= 0 && to >= from && to <= 100000 && to - from + 1 <= 2000);
            state(!rules.isEmpty());
            faults = new ArrayList<>();
            held = new int[6];
            for (int r = 0; r < rules.size(); r++) {
                findFaults(r, rules.get(r), from, to);
            }
            faults.sort(Comparator.comparing((Fault f) -> -f.cost).thenComparing(f -> f.name).thenComparing(f -> f.begin));
            return faults.size();
        }

        void findFaults(int r, Rule rule, int from, int to) {
            boolean[] holding = new boolean[to + 1];
            boolean[] firing = new boolean[to + 2];
            for (int minute = from; minute <= to; minute++) {
                holding[minute] = true;
                for (Test t : rule.tests) {
                    holding[minute] = holding[minute] && testHolds(t, minute);
                }
                held[r] += holding[minute] ? 1 : 0;
                firing[minute] = minute - rule.span + 1 >= from;
                for (int k = 0; k < rule.span && firing[minute]; k++) {
                    firing[minute] = holding[minute - k];
                }
            }
            int first = -1;
            for (int minute = from; minute <= to + 1; minute++) {
                if (firing[minute] && first < 0) {
                    first = minute;
                }
                if (!firing[minute] && first >= 0) {
                    int begin = first - rule.span + 1;
                    faults.add(new Fault(r, rule.name, begin, minute - 1, (minute - begin) * rule.cost));
                    first = -1;
                }
            }
        }

        int fault(int k, int what) {
            argument(k >= 0 && in(what, 0, 3));
            state(faults != null);
            if (k >= faults.size()) {
                return -1;
            }
            Fault f = faults.get(k);
            return new int[] {f.rule, f.begin, f.end, f.cost}[what];
        }

        int money() {
            state(faults != null);
            int all = 0;
            for (Fault f : faults) {
                all += f.cost;
            }
            return all;
        }

        int held(int rule) {
            argument(in(rule, 0, rules.size() - 1));
            state(faults != null);
            return held[rule];
        }

        boolean holds(int rule, int k, int minute) {
            argument(in(rule, 0, rules.size() - 1) && in(k, 0, rules.get(rule).tests.size() - 1) && in(minute, 0, 100000));
            return testHolds(rules.get(rule).tests.get(k), minute);
        }

        long line(int point, int other, int from, int to, int part) {
            argument(in(point, 0, 15) && in(other, 0, 15) && in(part, 0, 2));
            argument(from >= 0 && to >= from && to <= 100000 && to - from + 1 <= 60);
            List<BigInteger> xs = new ArrayList<>();
            List<BigInteger> ys = new ArrayList<>();
            BigInteger sumX = BigInteger.ZERO;
            BigInteger sumY = BigInteger.ZERO;
            for (int minute = from; minute <= to; minute++) {
                if (has(point, minute) != null && has(other, minute) != null && !leftOut.contains(minute)) {
                    xs.add(BigInteger.valueOf(has(other, minute)));
                    ys.add(BigInteger.valueOf(has(point, minute)));
                    sumX = sumX.add(xs.get(xs.size() - 1));
                    sumY = sumY.add(ys.get(ys.size() - 1));
                }
            }
            BigInteger n = BigInteger.valueOf(xs.size());
            BigInteger up = BigInteger.ZERO;
            BigInteger low = BigInteger.ZERO;
            for (int k = 0; k < xs.size(); k++) {
                BigInteger dx = xs.get(k).multiply(n).subtract(sumX);
                BigInteger dy = ys.get(k).multiply(n).subtract(sumY);
                up = up.add(dx.multiply(dy));
                low = low.add(dx.multiply(dx));
            }
            if (part == 2) {
                return xs.size();
            }
            if (low.signum() == 0) {
                return 0;
            }
            return (part == 0 ? up : low).divide(up.gcd(low)).longValueExact();
        }

        boolean leave(int minute, boolean on) {
            argument(in(minute, 0, 100000));
            boolean was = leftOut.contains(minute);
            state(!on || was || leftOut.size() < 100);
            if (on) {
                leftOut.add(minute);
            } else {
                leftOut.remove(minute);
            }
            return was;
        }

        int cause(int cause, int bits) {
            argument(in(cause, 0, 9) && in(bits, 0, 63));
            int was = brought[cause];
            brought[cause] = bits;
            return was;
        }

        int causes() {
            state(faults != null);
            for (int size = 0; size <= 10; size++) {
                for (int set = 0; set < 1024; set++) {
                    if (Integer.bitCount(set) == size && explains(set)) {
                        return set;
                    }
                }
            }
            return -1;
        }

        boolean explains(int set) {
            for (Fault f : faults) {
                boolean told = false;
                for (int c = 0; c < 10; c++) {
                    told |= (set >> c & 1) == 1 && (brought[c] >> f.rule & 1) == 1;
                }
                if (!told) {
                    return false;
                }
            }
            return true;
        }
    }

    /** Random calls on one object and its model. */
    private static final class Calls {
        final FaultRules real = new FaultRules();
        final Model model = new Model();
        final List<String> told = new ArrayList<>();
        final Random random;
        final int points;
        final int minutes;
        final int values;
        boolean differs = false;
        int answered = 0;
        int latest = 0;

        Calls(int seed) {
            random = new Random(seed);
            points = 1 + random.nextInt(4);
            minutes = new int[] {20, 100, 400, 3000}[random.nextInt(4)];
            values = new int[] {1, 3, 50, 1000000}[random.nextInt(4)];
        }

        void both(String call, Callable<Object> byReal, Callable<Object> byModel) {
            String got = answer(byReal);
            String want = answer(byModel);
            told.add(call + " = " + got);
            answered++;
            if (!got.equals(want)) {
                differs = true;
                System.out.println(call + " answered " + got + ", the model " + want);
            }
        }

        static String answer(Callable<Object> call) {
            try {
                return String.valueOf(call.call());
            } catch (Throwable e) {
                return "throws." + e.getClass().getSimpleName();
            }
        }

        /** Seldom an edge or beyond it, else a number low .. high. */
        int some(int low, int high) {
            int[] odd = {low - 1, high + 1, low, high, Integer.MIN_VALUE, Integer.MAX_VALUE, -1, 0, 100000, 100001};
            return random.nextInt(60) == 0 ? odd[random.nextInt(odd.length)] : low + random.nextInt(high - low + 1);
        }

        int somePoint() {
            return random.nextInt(40) == 0 ? some(0, 15) : random.nextInt(points);
        }

        void row() {
            int p = somePoint();
            latest = Math.min(100000, latest + random.nextInt(4) * random.nextInt(Math.max(2, minutes / 100)));
            int m = random.nextInt(8) == 0 ? some(0, minutes) : latest + random.nextInt(3);
            int v = random.nextInt(60) == 0 ? some(-1000000, 1000000) : random.nextInt(2 * values + 1) - values;
            both("row(" + p + ", " + m + ", " + v + ")", () -> real.row(p, m, v), () -> model.row(p, m, v));
        }

        String someTest() {
            String number = "" + random.nextInt(random.nextBoolean() ? 4 : values + 1);
            String point = "p" + random.nextInt(points);
            switch (random.nextInt(7)) {
                case 0: return "stuck " + point + " " + random.nextInt(6);
                case 1: return "jump " + point + " " + number;
                case 2: return "silent " + point + " " + random.nextInt(6);
                default:
            }
            String relation = new String[] {"<", "<=", "=", ">=", ">"}[random.nextInt(5)];
            String second = random.nextInt(3) == 0 ? " - p" + random.nextInt(points) : "";
            return point + second + " " + relation + " " + (random.nextInt(3) == 0 ? "-" : "") + number;
        }

        String someText() {
            StringBuilder all = new StringBuilder();
            int count = random.nextInt(8) == 0 ? random.nextInt(9) : 1 + random.nextInt(6);
            for (int r = 0; r < count; r++) {
                int length = random.nextInt(20) == 0 ? 1 + random.nextInt(9) : 1 + random.nextInt(3);
                for (int k = 0; k < length; k++) {
                    all.append("abpz".charAt(random.nextInt(4)));
                }
                all.append(r < 6 ? "" + (char) ('a' + r) : "").append(random.nextBoolean() ? ":" : " : ").append(someTest());
                int more = random.nextInt(30) == 0 ? random.nextInt(8) : random.nextInt(2);
                for (int k = 0; k < more; k++) {
                    all.append(random.nextBoolean() ? "&" : " & ").append(someTest());
                }
                int span = random.nextInt(20) == 0 ? random.nextInt(10002) : 1 + random.nextInt(4);
                int cost = random.nextInt(20) == 0 ? random.nextInt(10002) : 1 + random.nextInt(3);
                all.append(" for ").append(span).append(" costs ").append(cost).append(";");
            }
            String text = all.toString();
            return random.nextInt(3) == 0 ? spoilt(text) : text;
        }

        String spoilt(String text) {
            String signs = "abp019 :&;-<=>#~Az  ";
            String[] words = {"for", "costs", "stuck", "jump", "silent", "p16", "p", "p123", "p01", "1000001", "0001000", "12345678", "abcdefghi", "<=", ">=", "-", " "};
            int at = random.nextInt(text.length() + 1);
            int till = Math.min(text.length(), at + random.nextInt(3));
            switch (random.nextInt(4)) {
                case 0: return text.substring(0, at) + signs.charAt(random.nextInt(signs.length())) + text.substring(at);
                case 1: return text.substring(0, at) + text.substring(till);
                case 2: return text.substring(0, at) + words[random.nextInt(words.length)] + text.substring(till);
                default: return text.substring(0, at);
            }
        }

        void sayWord(long word) {
            both("say(" + word + "L)", () -> real.say(word), () -> model.say(word));
        }

        void text() {
            String text = someText();
            for (int at = 0; at < text.length(); ) {
                int till = random.nextInt(6) == 0 ? Math.min(text.length(), at + 1 + random.nextInt(8)) : Math.min(text.length(), at + 8);
                long word = 0;
                for (; at < till; at++) {
                    word = word << 8 | text.charAt(at);
                }
                sayWord(word);
            }
            both("rules()", () -> real.rules(), () -> model.rules());
            if (!model.text.isEmpty() && random.nextInt(5) != 0) {
                trim(model.text.length());
            }
        }

        void trim(int n) {
            both("trim(" + n + ")", () -> real.trim(n), () -> model.trim(n));
        }

        void run() {
            int from = random.nextInt(3) == 0 ? 0 : some(0, Math.max(1, latest));
            int to = random.nextInt(20) == 0 ? some(0, 2000) : (int) Math.min(Integer.MAX_VALUE, (long) from + random.nextInt(minutes < 2000 ? minutes : 2000));
            both("run(" + from + ", " + to + ")", () -> real.run(from, to), () -> model.run(from, to));
            for (int k = 0; k < 4; k++) {
                fault();
            }
            both("money()", () -> real.money(), () -> model.money());
            held();
        }

        void fault() {
            int size = model.faults == null ? 1 : model.faults.size();
            int k = some(0, size);
            int what = some(0, 3);
            both("fault(" + k + ", " + what + ")", () -> real.fault(k, what), () -> model.fault(k, what));
        }

        void held() {
            int r = random.nextInt(4) == 0 ? some(0, 6) : random.nextInt(Math.max(1, model.rules.size()));
            both("held(" + r + ")", () -> real.held(r), () -> model.held(r));
        }

        void holds() {
            int r = random.nextInt(8) == 0 ? some(0, 6) : random.nextInt(Math.max(1, model.rules.size()));
            int k = some(0, 2);
            int m = some(0, latest + 10);
            both("holds(" + r + ", " + k + ", " + m + ")", () -> real.holds(r, k, m), () -> model.holds(r, k, m));
        }

        void value() {
            int p = somePoint();
            int m = some(0, latest + 10);
            both("value(" + p + ", " + m + ")", () -> real.value(p, m), () -> model.value(p, m));
        }

        void line() {
            int p = somePoint();
            int o = somePoint();
            int from = some(0, latest + 1);
            int to = random.nextInt(20) == 0 ? some(0, 200) : (int) Math.min(Integer.MAX_VALUE, (long) from + random.nextInt(60));
            for (int part = 0; part < 3; part++) {
                int q = random.nextInt(40) == 0 ? some(0, 2) : part;
                both("line(" + p + ", " + o + ", " + from + ", " + to + ", " + q + ")",
                    () -> real.line(p, o, from, to, q), () -> model.line(p, o, from, to, q));
            }
        }

        void leave() {
            int m = some(0, Math.max(150, latest));
            boolean on = random.nextInt(5) != 0;
            both("leave(" + m + ", " + on + ")", () -> real.leave(m, on), () -> model.leave(m, on));
        }

        void causes() {
            int c = some(0, 9);
            int bits = random.nextInt(20) == 0 ? some(0, 63) : random.nextInt(64) & random.nextInt(64);
            both("cause(" + c + ", " + bits + ")", () -> real.cause(c, bits), () -> model.cause(c, bits));
            both("causes()", () -> real.causes(), () -> model.causes());
        }

        void oneOrMore() {
            int pick = random.nextInt(100);
            if (pick < 40) {
                row();
            } else if (pick < 45) {
                text();
            } else if (pick < 53) {
                run();
            } else if (pick < 60) {
                fault();
            } else if (pick < 70) {
                holds();
            } else if (pick < 75) {
                value();
            } else if (pick < 80) {
                line();
            } else if (pick < 88) {
                leave();
            } else if (pick < 96) {
                causes();
            } else if (pick < 98) {
                sayWord(random.nextBoolean() ? random.nextLong() : 0x2020202020202020L);
            } else {
                trim(some(0, Math.max(1, model.text.length())));
            }
        }
    }

    /** Every character and every two characters in places where words can end or begin. */
    private static int pairs() {
        int checks = 0;
        String[] frames = {"", "a:p1<1 for 1 costs 1;", "a", "a:", "a:p", "a:p1", "a:p1<", "a:p1-", "a:stuck", "a:stuck p1", "a:p1<1", "a:p1<1 for 1"};
        for (String frame : frames) {
            for (char one = 32; one <= 126; one++) {
                for (char two = 32; two <= 126; two++) {
                    FaultRules real = new FaultRules();
                    Model model = new Model();
                    String text = frame + one + two;
                    for (char c : text.toCharArray()) {
                        real.say(c);
                        model.say(c);
                    }
                    int got = real.rules();
                    int want = model.rules();
                    checks++;
                    if (got != want) {
                        wrong++;
                        System.out.println("rules of '" + text + "' answered " + got + ", the model " + want);
                    }
                }
            }
        }
        return checks;
    }

    public static void main(String[] args) {
        int answers = 0;
        for (int seed = 0; seed < OBJECTS && wrong < 3; seed++) {
            Calls calls = new Calls(seed);
            while (calls.answered < CALLS - 180 && !calls.differs) {
                calls.oneOrMore();
            }
            answers += calls.answered;
            if (calls.differs) {
                wrong++;
                System.out.println("seed " + seed + ": " + Arrays.toString(calls.told.toArray()));
            }
        }
        answers += pairs();
        System.out.println(answers + " answers, " + wrong + " runs not as the model's");
        if (wrong != 0) {
            System.exit(1);
        }
    }
}
