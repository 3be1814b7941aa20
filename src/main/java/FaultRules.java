import java.util.Arrays;

/**
 * Faults of a house's machines, found by rules over what its points told; see README.md.
 */
public final class FaultRules {
    /** There is none. */
    public static final int NONE = -1;

    private static final int POINTS = 16;
    private static final int MOST_ROWS = 120;
    private static final int LAST_MINUTE = 100000;
    private static final int MOST_VALUE = 1000000;

    private static final int MOST_TEXT = 1000;
    private static final int MOST_RULES = 6;
    private static final int MOST_TESTS = 6;
    private static final int MOST_LETTERS = 8;
    private static final int MOST_DIGITS = 7;
    private static final int MOST_POINT_DIGITS = 2;
    private static final int MOST_RULE_NUMBER = 9999;

    private static final int MOST_RUN_MINUTES = 2000;
    private static final int MOST_LINE_MINUTES = 60;
    private static final int MOST_LEFT_OUT = 100;
    private static final int CAUSES = 10;
    private static final int ALL_RULES = (1 << MOST_RULES) - 1;

    /*
     * A rule with a jump holds in minutes of rows alone, and one without stops holding in such minutes
     * alone: so a rule has at most one stretch for each row, and one that lasts to the end of the run.
     */
    private static final int MOST_FAULTS = MOST_RULES * (MOST_ROWS + 1);

    /* What a word is; those from LESS to SILENT are what a test is, too. */
    private static final int END = 0;
    private static final int WRONG = 1;
    private static final int NAME = 2;
    private static final int NUMBER = 3;
    private static final int POINT = 4;
    private static final int COLON = 5;
    private static final int AND = 6;
    private static final int SEMICOLON = 7;
    private static final int MINUS = 8;
    private static final int FOR = 9;
    private static final int COSTS = 10;
    private static final int LESS = 11;
    private static final int AT_MOST = 12;
    private static final int EQUAL = 13;
    private static final int AT_LEAST = 14;
    private static final int MORE = 15;
    private static final int STUCK = 16;
    private static final int JUMP = 17;
    private static final int SILENT = 18;

    /*
     * Letters are kept as one number, the first in the highest byte and zeros behind the last:
     * so numbers stand in the order of the names, and no text is made for a name.
     */
    private static final long FOR_LETTERS =
            (long) 'f' << 56 | (long) 'o' << 48 | (long) 'r' << 40;
    private static final long COSTS_LETTERS =
            (long) 'c' << 56 | (long) 'o' << 48 | (long) 's' << 40 | (long) 't' << 32 | (long) 's' << 24;
    private static final long STUCK_LETTERS =
            (long) 's' << 56 | (long) 't' << 48 | (long) 'u' << 40 | (long) 'c' << 32 | (long) 'k' << 24;
    private static final long JUMP_LETTERS =
            (long) 'j' << 56 | (long) 'u' << 48 | (long) 'm' << 40 | (long) 'p' << 32;
    private static final long SILENT_LETTERS =
            (long) 's' << 56 | (long) 'i' << 48 | (long) 'l' << 40 | (long) 'e' << 32 | (long) 'n' << 24
            | (long) 't' << 16;

    private final Rows rows;
    private final Text text;
    private final Reader reader;
    private final Run found;
    private final LeftOut leftOut;
    private final int[] brought;
    private RuleSet ruleSet;
    private RuleSet draft;

    public FaultRules() {
        rows = new Rows();
        text = new Text();
        reader = new Reader();
        found = new Run();
        leftOut = new LeftOut();
        brought = new int[CAUSES];
        ruleSet = new RuleSet();
        draft = new RuleSet();
    }

    /** Adds a row: how many rows the point has. */
    public int row(int point, int minute, int value) throws IllegalArgumentException, IllegalStateException {
        if (!isPoint(point) || !isMinute(minute) || value < -MOST_VALUE || value > MOST_VALUE) {
            throw new IllegalArgumentException("no such point, minute or value");
        }
        if (rows.isFull() || !rows.isBehindLast(point, minute)) {
            throw new IllegalStateException("the row is not behind the latest one, or there are too many");
        }
        return rows.add(point, minute, value);
    }

    /** What a point has at a minute. */
    public int value(int point, int minute) throws IllegalArgumentException {
        if (!isPoint(point) || !isMinute(minute)) {
            throw new IllegalArgumentException("no such point or minute");
        }
        rows.rewind();
        rows.advance(minute);
        if (!rows.has(point)) {
            throw new IllegalArgumentException("the point has nothing yet");
        }
        return rows.latestValue(point);
    }

    /** Puts the characters of a word behind the text: how many the text has. */
    public int say(long word) throws IllegalArgumentException, IllegalStateException {
        int more = 0;
        for (int shift = 56; shift >= 0; shift -= 8) {
            int sign = (int) (word >>> shift) & 255;
            if (sign != 0 && (sign < 32 || sign > 126)) {
                throw new IllegalArgumentException("a character that the text can't have");
            }
            more += sign == 0 ? 0 : 1;
        }
        if (more > MOST_TEXT - text.size) {
            throw new IllegalStateException("the text would be too long");
        }
        text.append(word);
        return text.size;
    }

    /** Takes the last n characters off the text: how many it has. */
    public int trim(int n) throws IllegalArgumentException {
        if (n < 0 || n > text.size) {
            throw new IllegalArgumentException("so many characters there are not");
        }
        text.size -= n;
        return text.size;
    }

    /** Reads the text: how many rules it has, or -1 less the number of its first wrong word. */
    public int rules() {
        int answer = reader.read(text, draft);
        if (answer >= 0) {
            RuleSet before = ruleSet;
            ruleSet = draft;
            draft = before;
            text.size = 0;
            found.isThere = false;
        }
        return answer;
    }

    /** Runs the rules over the minutes: how many faults. */
    public int run(int from, int to) throws IllegalArgumentException, IllegalStateException {
        if (!isStretch(from, to, MOST_RUN_MINUTES)) {
            throw new IllegalArgumentException("no such stretch of minutes");
        }
        if (ruleSet.count == 0) {
            throw new IllegalStateException("there are no rules");
        }
        found.find(ruleSet, rows, from, to);
        return found.count;
    }

    /** Of fault k, the dearest first: 0 its rule, 1 its beginning, 2 its end, 3 what it costs. */
    public int fault(int k, int what) throws IllegalArgumentException, IllegalStateException {
        if (k < 0 || what < 0 || what > 3) {
            throw new IllegalArgumentException("no such fault or question");
        }
        if (!found.isThere) {
            throw new IllegalStateException("there is no run");
        }
        return k < found.count ? found.part(k, what) : NONE;
    }

    /** What all faults of the run cost. */
    public int money() throws IllegalStateException {
        if (!found.isThere) {
            throw new IllegalStateException("there is no run");
        }
        return found.total;
    }

    /** In how many minutes of the run a rule's tests held. */
    public int held(int rule) throws IllegalArgumentException, IllegalStateException {
        if (rule < 0 || rule >= ruleSet.count) {
            throw new IllegalArgumentException("no such rule");
        }
        if (!found.isThere) {
            throw new IllegalStateException("there is no run");
        }
        return found.minutesHeld[rule];
    }

    /** Whether a rule's test k holds in a minute. */
    public boolean holds(int rule, int k, int minute) throws IllegalArgumentException {
        if (rule < 0 || rule >= ruleSet.count || k < 0 || k >= ruleSet.sizes[rule] || !isMinute(minute)) {
            throw new IllegalArgumentException("no such rule, test or minute");
        }
        rows.rewind();
        rows.advance(minute);
        return ruleSet.testHolds(rule * MOST_TESTS + k, rows, minute);
    }

    /** Of the steepness of a point's values over another one's: 0 up, 1 low, 2 of how many minutes. */
    public long line(int point, int other, int from, int to, int part) throws IllegalArgumentException {
        if (!isPoint(point) || !isPoint(other) || !isStretch(from, to, MOST_LINE_MINUTES)
                || part < 0 || part > 2) {
            throw new IllegalArgumentException("no such point, stretch of minutes or part");
        }
        long n = 0;
        long sumX = 0;
        long sumY = 0;
        long sumXX = 0;
        long sumXY = 0;
        rows.rewind();
        for (int minute = from; minute <= to; minute++) {
            rows.advance(minute);
            if (rows.has(point) && rows.has(other) && !leftOut.has(minute)) {
                long x = rows.latestValue(other);
                long y = rows.latestValue(point);
                n++;
                sumX += x;
                sumY += y;
                sumXX += x * x;
                sumXY += x * y;
            }
        }
        return part == 2 ? n : lowest(n * sumXY - sumX * sumY, n * sumXX - sumX * sumX, part);
    }

    /** Leaves a minute out of lines, or takes it in again: whether it was left out. */
    public boolean leave(int minute, boolean on) throws IllegalArgumentException, IllegalStateException {
        if (!isMinute(minute)) {
            throw new IllegalArgumentException("no such minute");
        }
        boolean was = leftOut.has(minute);
        if (on && !was && leftOut.isFull()) {
            throw new IllegalStateException("too many minutes would be left out");
        }
        if (on && !was) {
            leftOut.add(minute);
        }
        if (!on && was) {
            leftOut.remove(minute);
        }
        return was;
    }

    /** Tells which rules a cause brings about, as bits: which it did. */
    public int cause(int cause, int rules) throws IllegalArgumentException {
        if (cause < 0 || cause >= CAUSES || rules < 0 || rules > ALL_RULES) {
            throw new IllegalArgumentException("no such cause or rules");
        }
        int before = brought[cause];
        brought[cause] = rules;
        return before;
    }

    /** The fewest causes that explain the run, as bits, of several sets the least number. */
    public int causes() throws IllegalStateException {
        if (!found.isThere) {
            throw new IllegalStateException("there is no run");
        }
        int best = NONE;
        int fewest = CAUSES + 1;
        for (int set = 0; set < 1 << CAUSES; set++) {
            int size = Integer.bitCount(set);
            if (size < fewest && (found.faultyRules & ~broughtBy(set)) == 0) {
                best = set;
                fewest = size;
            }
        }
        return best;
    }

    private int broughtBy(int set) {
        int all = 0;
        for (int k = 0; k < CAUSES; k++) {
            if ((set >> k & 1) == 1) {
                all |= brought[k];
            }
        }
        return all;
    }

    private static boolean isPoint(int point) {
        return point >= 0 && point < POINTS;
    }

    private static boolean isMinute(int minute) {
        return minute >= 0 && minute <= LAST_MINUTE;
    }

    private static boolean isStretch(int from, int to, int most) {
        return isMinute(from) && isMinute(to) && to >= from && to - from < most;
    }

    /** Up (part 0) or low (part 1) of up / low in lowest terms; low is not below 0. */
    private static long lowest(long up, long low, int part) {
        if (low <= 0) {
            return 0;
        }
        long divisor = commonDivisor(low, Math.abs(up));
        return (part == 0 ? up : low) / divisor;
    }

    /** The greatest common divisor of a (above 0) and b (not below 0), by Euclid. */
    private static long commonDivisor(long a, long b) {
        long greater = a;
        long rest = b;
        // Two steps halve the greater number at least, so numbers of 63 bits need fewer than these.
        for (int step = 0; step < 128 && rest != 0; step++) {
            long next = greater % rest;
            greater = rest;
            rest = next;
        }
        return greater == 0 ? 1 : greater;
    }

    /** The rows of all points, and a look at them that goes on from minute to minute. */
    private static final class Rows {
        /** Sorted by points, then minutes: those of a point are at starts[point] .. starts[point + 1] - 1. */
        final int[] minutes = new int[MOST_ROWS];
        final int[] values = new int[MOST_ROWS];
        final int[] starts = new int[POINTS + 1];
        /** How many rows of each point are at the minute of the look or before. */
        final int[] seen = new int[POINTS];

        boolean isFull() {
            return starts[POINTS] >= MOST_ROWS;
        }

        boolean isBehindLast(int point, int minute) {
            int end = starts[point + 1];
            return end == starts[point] || minutes[end - 1] < minute;
        }

        /** Only if they are not full, and the minute is behind the point's last one. */
        int add(int point, int minute, int value) {
            int place = starts[point + 1];
            int behind = starts[POINTS] - place;
            System.arraycopy(minutes, place, minutes, place + 1, behind);
            System.arraycopy(values, place, values, place + 1, behind);
            minutes[place] = minute;
            values[place] = value;
            for (int k = point + 1; k <= POINTS; k++) {
                starts[k]++;
            }
            return starts[point + 1] - starts[point];
        }

        /** The look goes back to before all rows. */
        void rewind() {
            Arrays.fill(seen, 0);
        }

        /** The look goes on to a minute that is not before the one where it is. */
        void advance(int minute) {
            for (int point = 0; point < POINTS; point++) {
                int next = starts[point] + seen[point];
                while (next < starts[point + 1] && minutes[next] <= minute) {
                    next++;
                }
                seen[point] = next - starts[point];
            }
        }

        boolean has(int point) {
            return seen[point] > 0;
        }

        /** Only if the point has one. */
        int latestValue(int point) {
            return values[starts[point] + seen[point] - 1];
        }

        /** How old the latest row is; only if the point has one. */
        int age(int point, int minute) {
            return minute - minutes[starts[point] + seen[point] - 1];
        }

        /** By how much the values of the latest two rows differ; 0 if there are not two. */
        int lastStep(int point) {
            if (seen[point] < 2) {
                return 0;
            }
            int latest = starts[point] + seen[point] - 1;
            return Math.abs(values[latest] - values[latest - 1]);
        }
    }

    /** The text, and its words one by one. */
    private static final class Text {
        final char[] signs = new char[MOST_TEXT];
        int size;
        /** Where the next word is looked for. */
        int at;
        /** What the word is that was read last, the number in it, and its letters. */
        int kind;
        int amount;
        long letters;

        /** Only if there is room for the characters. */
        void append(long word) {
            for (int shift = 56; shift >= 0; shift -= 8) {
                int sign = (int) (word >>> shift) & 255;
                if (sign != 0 && size < MOST_TEXT) {
                    signs[size] = (char) sign;
                    size++;
                }
            }
        }

        void readFirst() {
            at = 0;
            readNext();
        }

        void readNext() {
            while (at < size && signs[at] == ' ') {
                at++;
            }
            char sign = signAt(at);
            if (at >= size) {
                kind = END;
            } else if (sign == 'p' && !isLetter(signAt(at + 1))) {
                readPoint();
            } else if (isLetter(sign)) {
                readLetters();
            } else if (isDigit(sign)) {
                readNumber();
            } else {
                readSign(sign);
            }
        }

        /** A blank stands for what is behind the text: it ends all words, too. */
        private char signAt(int place) {
            return place < size ? signs[place] : ' ';
        }

        private void readPoint() {
            at++;
            int length = readDigits();
            boolean stands = length > 0 && length <= MOST_POINT_DIGITS && isPoint(amount);
            kind = stands ? POINT : WRONG;
        }

        private void readNumber() {
            int length = readDigits();
            kind = length <= MOST_DIGITS && amount <= MOST_VALUE ? NUMBER : WRONG;
        }

        /** How many digits there are; the amount is that of the first of them, which can't overflow. */
        private int readDigits() {
            int length = 0;
            amount = 0;
            for (; at < size && isDigit(signs[at]); at++) {
                if (length < MOST_DIGITS) {
                    amount = amount * 10 + (signs[at] - '0');
                }
                length++;
            }
            return length;
        }

        private void readLetters() {
            int length = 0;
            letters = 0;
            for (; at < size && isLetter(signs[at]); at++) {
                if (length < MOST_LETTERS) {
                    letters |= (long) signs[at] << 56 - 8 * length;
                }
                length++;
            }
            kind = length <= MOST_LETTERS ? kindOfLetters(letters) : WRONG;
        }

        private void readSign(char sign) {
            at++;
            boolean equalBehind = signAt(at) == '=';
            if (equalBehind && (sign == '<' || sign == '>')) {
                at++;
                kind = sign == '<' ? AT_MOST : AT_LEAST;
            } else {
                kind = kindOfSign(sign);
            }
        }

        private static int kindOfLetters(long letters) {
            if (letters == FOR_LETTERS) {
                return FOR;
            }
            if (letters == COSTS_LETTERS) {
                return COSTS;
            }
            if (letters == STUCK_LETTERS) {
                return STUCK;
            }
            if (letters == JUMP_LETTERS) {
                return JUMP;
            }
            return letters == SILENT_LETTERS ? SILENT : NAME;
        }

        private static int kindOfSign(char sign) {
            switch (sign) {
                case ':': return COLON;
                case '&': return AND;
                case ';': return SEMICOLON;
                case '-': return MINUS;
                case '<': return LESS;
                case '=': return EQUAL;
                case '>': return MORE;
                default: return WRONG;
            }
        }

        private static boolean isLetter(char sign) {
            return sign >= 'a' && sign <= 'z';
        }

        private static boolean isDigit(char sign) {
            return sign >= '0' && sign <= '9';
        }
    }

    /** Reads a text into rules, word by word: what may stand next is all that it has to know. */
    private static final class Reader {
        private static final int DUE_NAME = 0;
        private static final int DUE_COLON = 1;
        private static final int DUE_TEST = 2;
        private static final int DUE_MINUS_OR_RELATION = 3;
        private static final int DUE_SECOND_POINT = 4;
        private static final int DUE_RELATION = 5;
        private static final int DUE_MINUS_OR_NUMBER = 6;
        private static final int DUE_NUMBER = 7;
        private static final int DUE_WATCHED_POINT = 8;
        private static final int DUE_AND_OR_FOR = 9;
        private static final int DUE_SPAN = 10;
        private static final int DUE_COSTS = 11;
        private static final int DUE_COST = 12;
        private static final int DUE_SEMICOLON = 13;

        private int due;
        private boolean isNegative;

        /** How many rules the draft has then, or -1 less the number of the first wrong word. */
        int read(Text text, RuleSet draft) {
            int word = 0;
            due = DUE_NAME;
            draft.count = 0;
            text.readFirst();
            while (word < MOST_TEXT && text.kind != END && takes(text, draft)) {
                text.readNext();
                word++;
            }
            return text.kind == END && due == DUE_NAME ? draft.count : -1 - word;
        }

        private boolean takes(Text word, RuleSet draft) {
            switch (due) {
                case DUE_NAME: return takesName(word, draft);
                case DUE_COLON: return word.kind == COLON && makeDue(DUE_TEST);
                case DUE_TEST: return takesTest(word, draft);
                case DUE_MINUS_OR_RELATION:
                    return word.kind == MINUS ? makeDue(DUE_SECOND_POINT) : takesRelation(word, draft);
                case DUE_SECOND_POINT: return takesSecondPoint(word, draft);
                case DUE_RELATION: return takesRelation(word, draft);
                case DUE_MINUS_OR_NUMBER:
                    return word.kind == MINUS ? takesMinus() : takesNumber(word, draft);
                case DUE_NUMBER: return takesNumber(word, draft);
                case DUE_WATCHED_POINT: return takesWatchedPoint(word, draft);
                case DUE_AND_OR_FOR: return takesAndOrFor(word, draft);
                case DUE_SPAN: return takesSpan(word, draft);
                case DUE_COSTS: return word.kind == COSTS && makeDue(DUE_COST);
                case DUE_COST: return takesCost(word, draft);
                case DUE_SEMICOLON: return takesSemicolon(word, draft);
                default: return false;
            }
        }

        /** Always true, so that a word is taken by what makes the next one due. */
        private boolean makeDue(int next) {
            due = next;
            return true;
        }

        private boolean takesName(Text word, RuleSet draft) {
            if (word.kind != NAME || draft.count >= MOST_RULES || draft.hasName(word.letters)) {
                return false;
            }
            draft.names[draft.count] = word.letters;
            draft.sizes[draft.count] = 0;
            return makeDue(DUE_COLON);
        }

        private boolean takesTest(Text word, RuleSet draft) {
            int test = draft.openTest();
            isNegative = false;
            draft.seconds[test] = NONE;
            if (word.kind == POINT) {
                draft.firsts[test] = word.amount;
                return makeDue(DUE_MINUS_OR_RELATION);
            }
            draft.kinds[test] = word.kind;
            boolean watches = word.kind == STUCK || word.kind == JUMP || word.kind == SILENT;
            return watches && makeDue(DUE_WATCHED_POINT);
        }

        private boolean takesSecondPoint(Text word, RuleSet draft) {
            draft.seconds[draft.openTest()] = word.amount;
            return word.kind == POINT && makeDue(DUE_RELATION);
        }

        private boolean takesRelation(Text word, RuleSet draft) {
            draft.kinds[draft.openTest()] = word.kind;
            return word.kind >= LESS && word.kind <= MORE && makeDue(DUE_MINUS_OR_NUMBER);
        }

        private boolean takesMinus() {
            isNegative = true;
            return makeDue(DUE_NUMBER);
        }

        private boolean takesWatchedPoint(Text word, RuleSet draft) {
            draft.firsts[draft.openTest()] = word.amount;
            return word.kind == POINT && makeDue(DUE_NUMBER);
        }

        private boolean takesNumber(Text word, RuleSet draft) {
            if (word.kind != NUMBER) {
                return false;
            }
            draft.numbers[draft.openTest()] = isNegative ? -word.amount : word.amount;
            draft.sizes[draft.count]++;
            return makeDue(DUE_AND_OR_FOR);
        }

        private boolean takesAndOrFor(Text word, RuleSet draft) {
            if (word.kind == AND) {
                return draft.sizes[draft.count] < MOST_TESTS && makeDue(DUE_TEST);
            }
            return word.kind == FOR && makeDue(DUE_SPAN);
        }

        private boolean takesSpan(Text word, RuleSet draft) {
            draft.spans[draft.count] = word.amount;
            return isRuleNumber(word) && makeDue(DUE_COSTS);
        }

        private boolean takesCost(Text word, RuleSet draft) {
            draft.costs[draft.count] = word.amount;
            return isRuleNumber(word) && makeDue(DUE_SEMICOLON);
        }

        private boolean takesSemicolon(Text word, RuleSet draft) {
            if (word.kind != SEMICOLON) {
                return false;
            }
            draft.count++;
            return makeDue(DUE_NAME);
        }

        private static boolean isRuleNumber(Text word) {
            return word.kind == NUMBER && word.amount >= 1 && word.amount <= MOST_RULE_NUMBER;
        }
    }

    /** Rules, and their tests: those of a rule are at rule * MOST_TESTS and behind. */
    private static final class RuleSet {
        final long[] names = new long[MOST_RULES];
        final int[] spans = new int[MOST_RULES];
        final int[] costs = new int[MOST_RULES];
        /** How many tests each rule has. */
        final int[] sizes = new int[MOST_RULES];
        final int[] kinds = new int[MOST_RULES * MOST_TESTS];
        final int[] firsts = new int[MOST_RULES * MOST_TESTS];
        /** The point that is taken off the first one, or NONE. */
        final int[] seconds = new int[MOST_RULES * MOST_TESTS];
        final int[] numbers = new int[MOST_RULES * MOST_TESTS];
        int count;

        boolean hasName(long name) {
            for (int rule = 0; rule < count; rule++) {
                if (names[rule] == name) {
                    return true;
                }
            }
            return false;
        }

        /** The test that is being read, of the rule that is; only while there is one. */
        int openTest() {
            return count * MOST_TESTS + sizes[count];
        }

        /** Whether all tests of a rule hold in the minute to which the rows' look went. */
        boolean ruleHolds(int rule, Rows rows, int minute) {
            for (int k = 0; k < sizes[rule]; k++) {
                if (!testHolds(rule * MOST_TESTS + k, rows, minute)) {
                    return false;
                }
            }
            return true;
        }

        /** Whether a test holds in the minute to which the rows' look went. */
        boolean testHolds(int test, Rows rows, int minute) {
            int point = firsts[test];
            int number = numbers[test];
            boolean has = rows.has(point);
            switch (kinds[test]) {
                case STUCK: return has && rows.age(point, minute) >= number;
                case JUMP: return has && rows.age(point, minute) == 0 && rows.lastStep(point) > number;
                case SILENT: return !has || rows.age(point, minute) > number;
                default: return has && relationHolds(test, rows);
            }
        }

        /** Only if the first point has a value. */
        private boolean relationHolds(int test, Rows rows) {
            int amount = rows.latestValue(firsts[test]);
            int second = seconds[test];
            if (second != NONE) {
                if (!rows.has(second)) {
                    return false;
                }
                amount -= rows.latestValue(second);
            }
            int number = numbers[test];
            switch (kinds[test]) {
                case LESS: return amount < number;
                case AT_MOST: return amount <= number;
                case EQUAL: return amount == number;
                case AT_LEAST: return amount >= number;
                case MORE: return amount > number;
                default: return false;
            }
        }
    }

    /** What a run found: its faults, ranked, and in how many minutes each rule's tests held. */
    private static final class Run {
        boolean isThere;
        int count;
        int total;
        /** The rules that have a fault, as bits. */
        int faultyRules;
        final int[] minutesHeld = new int[MOST_RULES];
        /** The first minute of the holding that goes on, or NONE. */
        private final int[] since = new int[MOST_RULES];
        private final int[] faultRules = new int[MOST_FAULTS];
        private final int[] begins = new int[MOST_FAULTS];
        private final int[] ends = new int[MOST_FAULTS];
        private final int[] faultCosts = new int[MOST_FAULTS];

        void find(RuleSet set, Rows rows, int from, int to) {
            clear();
            rows.rewind();
            for (int minute = from; minute <= to; minute++) {
                rows.advance(minute);
                for (int rule = 0; rule < set.count; rule++) {
                    if (set.ruleHolds(rule, rows, minute)) {
                        goOn(rule, minute);
                    } else {
                        end(set, rule, minute - 1);
                    }
                }
            }
            for (int rule = 0; rule < set.count; rule++) {
                end(set, rule, to);
            }
            isThere = true;
        }

        /** 0 the rule of fault k, 1 its beginning, 2 its end, 3 what it costs; only if there is one. */
        int part(int k, int what) {
            switch (what) {
                case 0: return faultRules[k];
                case 1: return begins[k];
                case 2: return ends[k];
                default: return faultCosts[k];
            }
        }

        private void clear() {
            count = 0;
            total = 0;
            faultyRules = 0;
            Arrays.fill(minutesHeld, 0);
            Arrays.fill(since, NONE);
        }

        private void goOn(int rule, int minute) {
            minutesHeld[rule]++;
            if (since[rule] == NONE) {
                since[rule] = minute;
            }
        }

        /** A rule that held till the last minute holds no more: a fault, if it held for long enough. */
        private void end(RuleSet set, int rule, int last) {
            int begin = since[rule];
            since[rule] = NONE;
            if (begin != NONE && last - begin + 1 >= set.spans[rule]) {
                add(set, rule, begin, last);
            }
        }

        private void add(RuleSet set, int rule, int begin, int last) {
            if (count >= MOST_FAULTS) {
                return;
            }
            int cost = (last - begin + 1) * set.costs[rule];
            int place = placeOf(set, rule, begin, cost);
            makeRoom(faultRules, place);
            makeRoom(begins, place);
            makeRoom(ends, place);
            makeRoom(faultCosts, place);
            faultRules[place] = rule;
            begins[place] = begin;
            ends[place] = last;
            faultCosts[place] = cost;
            count++;
            total += cost;
            faultyRules |= 1 << rule;
        }

        /** Only if there are fewer than MOST_FAULTS, and the place is not behind them. */
        private void makeRoom(int[] parts, int place) {
            System.arraycopy(parts, place, parts, place + 1, count - place);
        }

        /** How many of the faults rank before a new one, by halving. */
        private int placeOf(RuleSet set, int rule, int begin, int cost) {
            int low = 0;
            int high = count;
            for (int step = 0; step < 32 && low < high; step++) {
                int middle = low + high >> 1;
                if (ranksBefore(set, middle, rule, begin, cost)) {
                    low = middle + 1;
                } else {
                    high = middle;
                }
            }
            return low;
        }

        private boolean ranksBefore(RuleSet set, int k, int rule, int begin, int cost) {
            if (faultCosts[k] != cost) {
                return faultCosts[k] > cost;
            }
            if (faultRules[k] != rule) {
                return set.names[faultRules[k]] < set.names[rule];
            }
            return begins[k] < begin;
        }
    }

    /** The minutes that are left out of lines, in no order. */
    private static final class LeftOut {
        private final int[] minutes = new int[MOST_LEFT_OUT];
        private int count;

        boolean isFull() {
            return count >= MOST_LEFT_OUT;
        }

        boolean has(int minute) {
            return placeOf(minute) != NONE;
        }

        /** Only if they are not full, and don't have it. */
        void add(int minute) {
            minutes[count] = minute;
            count++;
        }

        /** Only if they have it. */
        void remove(int minute) {
            int place = placeOf(minute);
            if (place != NONE) {
                count--;
                minutes[place] = minutes[count];
            }
        }

        private int placeOf(int minute) {
            for (int k = 0; k < count; k++) {
                if (minutes[k] == minute) {
                    return k;
                }
            }
            return NONE;
        }
    }
}
