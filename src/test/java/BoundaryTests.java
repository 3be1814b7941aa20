import java.util.Arrays;

/**
 * Each sentence of the document that names a boundary case, in the document's order, with a test of its own:
 * the last number that may be, the first that may not, empty, full, refused. The sentence is quoted.
 */
public final class BoundaryTests extends Checks {
    private static final int LEAST = Integer.MIN_VALUE;
    private static final int GREATEST = Integer.MAX_VALUE;
    private static final String REST = " for 1 costs 1;";

    /** A call that can be made on several objects. */
    private interface Call {
        Object on(FaultRules x);
    }

    private static String repeated(String text, int times, String between) {
        StringBuilder all = new StringBuilder();
        for (int k = 0; k < times; k++) {
            all.append(k == 0 ? "" : between).append(text);
        }
        return all.toString();
    }

    /** Rules named a, b, .. with the same tests. */
    private static String rules(int count, String tests) {
        StringBuilder all = new StringBuilder();
        for (int k = 0; k < count; k++) {
            all.append((char) ('a' + k)).append(':').append(tests).append(REST);
        }
        return all.toString();
    }

    /** A point that is on (1) in the minutes of the stretches, given by beginnings and ends, and off (0) else. */
    private static void onIn(FaultRules x, int point, int... stretches) {
        for (int k = 0; k < stretches.length; k += 2) {
            x.row(point, stretches[k], 1);
            x.row(point, stretches[k + 1] + 1, 0);
        }
    }

    // ---- What it is

    private static void fiveHundredAndTwelveCalls() {
        about("An object is used for at most 512 calls after it has been made");
        FaultRules x = new FaultRules();
        int calls = 0;
        for (int k = 0; k < 120; k++) {
            x.row(k % 16, k, k % 3 - 1);
            calls++;
        }
        String tests = "stuck p0 0&jump p1 0&silent p2 9&p3<5&p4-p5>=-5&p15=0";
        StringBuilder text = new StringBuilder();
        for (int k = 0; k < 6; k++) {
            text.append("abcdefg").append((char) ('a' + k)).append(" : ").append(tests).append(" for 9999 costs 9999 ; ");
        }
        while (text.length() < 1000) {
            text.append(' ');
        }
        sayAll(x, text.toString());
        due("full of rules", () -> x.rules(), 6);
        calls += 126;
        for (int k = 0; k < 100; k++) {
            x.leave(1000 * k, true);
            calls++;
        }
        for (int k = 0; k < 10; k++) {
            x.cause(k, 63);
            calls++;
        }
        for (; calls < 509; calls++) {
            x.run(0, 1999);
        }
        due("call 510", () -> x.leave(99000, true), true);
        due("call 511", () -> x.value(15, 100000), -1);
        due("call 512", () -> x.held(5), 2);
    }

    // ---- Terms: points and rows

    private static void points() {
        about("POINTS are 0 .. 15.");
        FaultRules x = new FaultRules();
        for (int point : new int[] {0, 15}) {
            due("row of " + point, () -> x.row(point, 5, point + 3), 1);
            due("value of " + point, () -> x.value(point, 5), point + 3);
            due("line of " + point, () -> x.line(point, 15 - point, 0, 9, 2), point == 0 ? 0 : 5);
            dueRules("a:p" + point + "<1" + REST, 1);
            dueRules("a:p1-p" + point + "<1" + REST, 1);
            dueRules("a:stuck p" + point + " 1" + REST, 1);
        }
        for (int point : new int[] {-1, 16, LEAST, GREATEST}) {
            due("row of " + point, () -> x.row(point, 5, 0), ARGUMENT);
            due("value of " + point, () -> x.value(point, 5), ARGUMENT);
            due("line of " + point, () -> x.line(point, 0, 0, 9, 2), ARGUMENT);
            due("line over " + point, () -> x.line(0, point, 0, 9, 2), ARGUMENT);
        }
        dueRules("a:p16<1" + REST, -1 - 2);
        dueRules("a:p1-p16<1" + REST, -1 - 4);
        dueRules("a:stuck p16 1" + REST, -1 - 3);
    }

    private static void minutes() {
        about("a MINUTE (0 .. 100000)");
        FaultRules x = withTest("silent p1 0");
        for (int minute : new int[] {0, 100000}) {
            due("row at " + minute, () -> x.row(0, minute, minute % 7), minute == 0 ? 1 : 2);
            due("value at " + minute, () -> x.value(0, minute), minute % 7);
            due("run at " + minute, () -> x.run(minute, minute), 1);
            due("holds at " + minute, () -> x.holds(0, 0, minute), true);
            due("line at " + minute, () -> x.line(0, 0, minute, minute, 2), 1);
            due("leave " + minute, () -> x.leave(minute, true), false);
        }
        for (int minute : new int[] {-1, 100001, LEAST, GREATEST}) {
            due("row at " + minute, () -> x.row(2, minute, 0), ARGUMENT);
            due("value at " + minute, () -> x.value(0, minute), ARGUMENT);
            due("run at " + minute, () -> x.run(minute, minute), ARGUMENT);
            due("holds at " + minute, () -> x.holds(0, 0, minute), ARGUMENT);
            due("line at " + minute, () -> x.line(0, 0, minute, minute, 2), ARGUMENT);
            due("leave " + minute, () -> x.leave(minute, true), ARGUMENT);
            due("take in " + minute, () -> x.leave(minute, false), ARGUMENT);
        }
    }

    private static void values() {
        about("a value (-1000000 .. 1000000)");
        FaultRules x = new FaultRules();
        due("the least", () -> x.row(0, 0, -1000000), 1);
        due("the greatest", () -> x.row(0, 1, 1000000), 2);
        due("too small", () -> x.row(0, 2, -1000001), ARGUMENT);
        due("too large", () -> x.row(0, 2, 1000001), ARGUMENT);
        due("least of all", () -> x.row(0, 2, LEAST), ARGUMENT);
        due("greatest of all", () -> x.row(0, 2, GREATEST), ARGUMENT);
        due("the least is kept", () -> x.value(0, 0), -1000000);
        due("the greatest is kept", () -> x.value(0, 2), 1000000);
    }

    private static void risingMinutes() {
        about("rows of a point come with rising minutes");
        FaultRules x = new FaultRules();
        due("the first", () -> x.row(7, 50, 1), 1);
        due("one before", () -> x.row(7, 49, 2), STATE);
        due("the same", () -> x.row(7, 50, 2), STATE);
        due("the same, with the same value", () -> x.row(7, 50, 1), STATE);
        due("the next", () -> x.row(7, 51, 2), 2);
        due("the last that can be", () -> x.row(7, 100000, 3), 3);
        due("none behind it", () -> x.row(7, 100000, 4), STATE);
        due("other points have their own: before", () -> x.row(6, 0, 5), 1);
        due("other points have their own: behind", () -> x.row(8, 0, 5), 1);
    }

    private static void rowsTogether() {
        about("120 at most together");
        FaultRules one = new FaultRules();
        FaultRules all = new FaultRules();
        for (int k = 0; k < 120; k++) {
            int n = k;
            due("row " + k + " of one point", () -> one.row(15, n, n), n + 1);
            due("row " + k + " of all points", () -> all.row(n % 16, n / 16, n), n / 16 + 1);
        }
        for (FaultRules x : new FaultRules[] {one, all}) {
            for (int point = 0; point < 16; point++) {
                int p = point;
                due("row 121", () -> x.row(p, 5000, 1), STATE);
            }
        }
        due("the first is kept", () -> one.value(15, 0), 0);
        due("the last is kept", () -> one.value(15, 100000), 119);
        for (int k = 0; k < 120; k++) {
            int n = k;
            due("row " + k + " is kept", () -> all.value(n % 16, n / 16), n);
        }
    }

    private static void whatAPointHas() {
        about("At a minute a point HAS the value of its latest row at that minute or before; nothing before its first.");
        FaultRules x = new FaultRules();
        due("without rows", () -> x.value(4, 100000), ARGUMENT);
        x.row(4, 10, 7);
        x.row(4, 12, 8);
        due("the minute before the first", () -> x.value(4, 9), ARGUMENT);
        due("minute 0", () -> x.value(4, 0), ARGUMENT);
        due("of the first", () -> x.value(4, 10), 7);
        due("the minute before the second", () -> x.value(4, 11), 7);
        due("of the second", () -> x.value(4, 12), 8);
        due("the last minute", () -> x.value(4, 100000), 8);
    }

    // ---- Terms: the text

    private static void textCharacters() {
        about("THE TEXT has characters 32 .. 126, 1000 at most");
        for (int c = 0; c < 256; c++) {
            FaultRules x = new FaultRules();
            int sign = c;
            due("character " + c, () -> x.say(sign), c == 0 ? 0 : c >= 32 && c <= 126 ? 1 : ARGUMENT);
        }
        FaultRules x = new FaultRules();
        sayAll(x, repeated(" ", 1000, ""));
        due("1000", () -> x.trim(0), 1000);
        due("1001", () -> x.say(' '), STATE);
        String tests = repeated("p01 <= 0000001", 6, " & ");
        StringBuilder text = new StringBuilder(rules(6, tests));
        text.insert(0, repeated(" ", 1000 - text.length(), ""));
        due("a text of 1000 is read to its end", () -> {
            FaultRules y = new FaultRules();
            sayAll(y, text.toString());
            return y.rules();
        }, 6);
        dueRules(repeated(";", 1000, ""), -1);
        dueRules(repeated("a", 1000, ""), -1);
        dueRules(repeated("1", 1000, ""), -1);
        String blanks = repeated(" ", 992, "");
        dueRules(blanks + "abcdefgh", -1 - 1);
        dueRules(blanks + "a:     p", -1 - 2);
        dueRules(blanks + "a:stuck ", -1 - 3);
        dueRules(blanks + "a :   p1", -1 - 3);
        dueRules(blanks + "a:p1   <", -1 - 4);
        dueRules(blanks + "a:p1  <=", -1 - 4);
        dueRules(blanks + "a:p1<123", -1 - 5);
        dueRules(blanks + "a:p1<1 f", -1 - 5);
    }

    private static void sixRulesPerhapsNone() {
        about("is a row of RULES, 6 at most (perhaps of none)");
        dueRules("", 0);
        dueRules(" ", 0);
        dueRules(repeated(" ", 1000, ""), 0);
        for (int count = 1; count <= 6; count++) {
            dueRules(rules(count, "p1<1"), count);
        }
        dueRules(rules(7, "p1<1"), -1 - 60);
    }

    private static void oneToSixTests() {
        about("with 1 .. 6 tests");
        dueRules("a:" + REST, -1 - 2);
        dueRules("a:&p1<1" + REST, -1 - 2);
        dueRules("a:p1<1&" + REST, -1 - 6);
        for (int count = 1; count <= 6; count++) {
            dueRules("a:" + repeated("p1<1", count, "&") + REST, 1);
            dueRules("a:" + repeated("p1-p2<-1", count, "&") + REST, 1);
            dueRules("a:" + repeated("jump p1 1", count, "&") + REST, 1);
        }
        dueRules("a:" + repeated("p1<1", 7, "&") + REST, -1 - 25);
        FaultRules x = withRules("a:" + repeated("silent p1 0", 6, "&") + REST + "b:silent p1 0" + REST);
        due("the sixth test", () -> x.holds(0, 5, 0), true);
        due("no seventh test", () -> x.holds(0, 6, 0), ARGUMENT);
        due("one test", () -> x.holds(1, 0, 0), true);
        due("no second test", () -> x.holds(1, 1, 0), ARGUMENT);
    }

    private static void ruleNumbers() {
        about("both numbers 1 .. 9999");
        for (String good : new String[] {"1", "9999", "0000001", "0009999"}) {
            dueRules("a:p1<1 for " + good + " costs 1;", 1);
            dueRules("a:p1<1 for 1 costs " + good + ";", 1);
        }
        for (String bad : new String[] {"0", "0000000", "10000", "0010000", "1000000", "-1", "- 1", "12345678"}) {
            dueRules("a:p1<1 for " + bad + " costs 1;", -1 - 6);
            dueRules("a:p1<1 for 1 costs " + bad + ";", -1 - 8);
        }
    }

    private static void formsOfTests() {
        about("A TEST is one of: POINT REL NUMBER; POINT - POINT REL NUMBER; stuck POINT NUMBER; jump POINT NUMBER; silent POINT NUMBER.");
        for (String good : new String[] {"p1<1", "p1-p2<1", "p1-p1=0", "stuck p1 1", "jump p1 1", "silent p1 1"}) {
            dueRules("a:" + good + REST, 1);
        }
        dueRules("a:1<p1" + REST, -1 - 2);
        dueRules("a:-p1<1" + REST, -1 - 2);
        dueRules("a:p1" + REST, -1 - 3);
        dueRules("a:p1 1" + REST, -1 - 3);
        dueRules("a:p1 p2<1" + REST, -1 - 3);
        dueRules("a:p1<p2" + REST, -1 - 4);
        dueRules("a:p1-1<1" + REST, -1 - 4);
        dueRules("a:p1--p2<1" + REST, -1 - 4);
        dueRules("a:p1-p2" + REST, -1 - 5);
        dueRules("a:p1-p2-p3<1" + REST, -1 - 5);
        for (String word : new String[] {"stuck", "jump", "silent"}) {
            dueRules("a:" + word + REST, -1 - 3);
            dueRules("a:" + word + " 1 p1" + REST, -1 - 3);
            dueRules("a:" + word + " p1" + REST, -1 - 4);
            dueRules("a:" + word + " p1<1" + REST, -1 - 4);
            dueRules("a:" + word + " p1-p2 1" + REST, -1 - 4);
            dueRules("a:" + word + " p1 1 1" + REST, -1 - 5);
        }
        dueRules("a:steady p1 1" + REST, -1 - 2);
    }

    private static void pointsInTheText() {
        about("POINT is p and 1 or 2 digits behind it at once, 0 .. 15.");
        for (int point = 0; point < 16; point++) {
            dueRules("a:p" + point + "=1" + REST, 1);
            FaultRules x = withTest("p" + (point < 10 ? "0" : "") + point + "=1");
            x.row(point, 0, 1);
            dueHolds(x, "point " + point, 0, true);
        }
        for (String bad : new String[] {"p16", "p17", "p20", "p99", "p", "p000", "p001", "p015", "p100"}) {
            dueRules("a:" + bad + "=1" + REST, -1 - 2);
            dueRules("a:p1-" + bad + "=1" + REST, -1 - 4);
            dueRules("a:jump " + bad + " 1" + REST, -1 - 3);
        }
        dueRules("a:p 1=1" + REST, -1 - 2);
        dueRules("a:p1 5=1" + REST, -1 - 3);
        dueRules("a:P1=1" + REST, -1 - 2);
    }

    private static void relationsInTheText() {
        about("REL: < <= = >= >.");
        for (String good : new String[] {"<", "<=", "=", ">=", ">"}) {
            dueRules("a:p1" + good + "1" + REST, 1);
            dueRules("a:p1-p2" + good + "-1" + REST, 1);
        }
        for (String bad : new String[] {"!", ":", "~", "&", ";"}) {
            dueRules("a:p1" + bad + "1" + REST, -1 - 3);
        }
        for (String bad : new String[] {"<<", "==", "=<", "=>", "<>", "><", ">>", "<==", ">==", "<=<", "< =", "> ="}) {
            dueRules("a:p1" + bad + "1" + REST, -1 - 4);
        }
    }

    private static void numbersInTheText() {
        about("A NUMBER has 1 .. 7 digits (at most 1000000); in a test with REL perhaps a - before it.");
        for (String good : new String[] {"0", "9", "0000000", "999999", "1000000"}) {
            dueRules("a:p1<" + good + REST, 1);
            dueRules("a:p1<-" + good + REST, 1);
            dueRules("a:p1-p2< - " + good + REST, 1);
            dueRules("a:stuck p1 " + good + REST, 1);
            dueRules("a:jump p1 " + good + REST, 1);
            dueRules("a:silent p1 " + good + REST, 1);
        }
        for (String bad : new String[] {"1000001", "9999999", "00000000", "00000001", "10000000", "99999999999999999999"}) {
            dueRules("a:p1<" + bad + REST, -1 - 4);
            dueRules("a:p1<-" + bad + REST, -1 - 5);
            dueRules("a:p1-p2<" + bad + REST, -1 - 6);
            dueRules("a:p1-p2<-" + bad + REST, -1 - 7);
            dueRules("a:stuck p1 " + bad + REST, -1 - 4);
            dueRules("a:jump p1 " + bad + REST, -1 - 4);
            dueRules("a:silent p1 " + bad + REST, -1 - 4);
        }
        dueRules("a:p1<--1" + REST, -1 - 5);
        dueRules("a:p1<+1" + REST, -1 - 4);
        dueRules("a:p1<1-" + REST, -1 - 5);
        for (String word : new String[] {"stuck", "jump", "silent"}) {
            dueRules("a:" + word + " p1 -1" + REST, -1 - 4);
        }
        FaultRules x = withTest("p0=-1000000");
        x.row(0, 0, -999999);
        x.row(0, 1, -1000000);
        dueHolds(x, "not the least", 0, false);
        dueHolds(x, "the least", 1, true);
        FaultRules minusZero = withTest("p0=-0");
        minusZero.row(0, 0, 0);
        dueHolds(minusZero, "-0", 0, true);
        FaultRules minusOnce = withTest("p0<-1&p0>1");
        minusOnce.row(0, 0, 2);
        due("the - is of its own test alone", () -> minusOnce.holds(0, 1, 0), true);
    }

    // ---- Terms: words

    private static void longWords() {
        about("rows of small letters, of digits (one of more than 8 letters, or 7 digits, is one word, which can't stand)");
        dueRules("abcdefgh:p1<1" + REST, 1);
        dueRules("abcdefghi:p1<1" + REST, -1);
        dueRules("a:p1<1 forfor fo", -1 - 5);
        dueRules("a" + repeated("x", 500, ""), -1);
        dueRules("a:p1<1234567" + REST, -1 - 4);
        dueRules("a:p1<0234567" + REST, 1);
        dueRules("a:p1<02345670" + REST, -1 - 4);
        dueRules("a:p1<" + repeated("0", 500, "") + REST, -1 - 4);
        dueRules("a:p1<4294967297" + REST, -1 - 4);
        dueRules("a:p1<1 for 4294967297 costs 1;", -1 - 6);
        FaultRules x = withTest("p0<0234567");
        x.row(0, 0, 234566);
        x.row(0, 1, 234567);
        dueHolds(x, "seven digits, below", 0, true);
        dueHolds(x, "seven digits, at it", 1, false);
    }

    private static void eachAsLongAsCanBe() {
        about("WORDS, each as long as can be");
        dueRules("a:p1<1for1costs1;", 1);
        dueRules("a:p1<1f or 1", -1 - 5);
        dueRules("a:p1<1 1", -1 - 5);
        dueRules("a b:p1<1", -1 - 1);
        dueRules("a1:p1<1", -1 - 1);
        dueRules("a:stuckp1 1" + REST, -1 - 2);
        dueRules("a:stuck p11" + REST, -1 - 4);
        dueRules("a:p1<1&p2>1;", -1 - 9);
    }

    private static void pWithItsDigits() {
        about("p with its digits as one word (p alone, or with more than two digits, is one, too; small letters behind p make it a row of letters)");
        dueRules("p:p1<1" + REST, -1);
        dueRules("p", -1);
        dueRules("p1:p1<1" + REST, -1);
        dueRules("p123456789012:p1<1", -1);
        dueRules("a:p123<1" + REST, -1 - 2);
        dueRules("a p123 b", -1 - 1);
        dueRules("pa:p1<1" + REST, 1);
        dueRules("pp:p1<1" + REST, 1);
        dueRules("pump:p1<1" + REST, 1);
        dueRules("pumppump:p1<1" + REST, 1);
        dueRules("pumppumpp:p1<1" + REST, -1);
        dueRules("ap:p1<1" + REST, 1);
        dueRules("pp1:p1<1" + REST, -1 - 1);
        dueRules("a:pp1<1" + REST, -1 - 2);
        dueRules("a:p1p2<1" + REST, -1 - 3);
        dueRules("a:p1x<1" + REST, -1 - 3);
        dueRules("a:p1<1&p", -1 - 6);
    }

    private static void signsAndOtherCharacters() {
        about("the signs : & ; - < <= = >= >, and any other character by itself (it can't stand)");
        for (char c = 33; c <= 126; c++) {
            boolean isNamePart = c >= 'a' && c <= 'z';
            boolean isSign = ":&;-<=>".indexOf(c) >= 0;
            boolean isDigit = c >= '0' && c <= '9';
            dueRules("" + c, isNamePart && c != 'p' ? -1 - 1 : -1);
            if (!isNamePart && !isSign && !isDigit) {
                dueRules("a:p1<1 " + c + REST, -1 - 5);
                dueRules("a:p1<1" + c + c + REST, -1 - 5);
                dueRules("a" + c + ":", -1 - 1);
            }
        }
        for (String sign : new String[] {":", "&", ";", "-", "<", "<=", "=", ">=", ">"}) {
            dueRules("a:p1<1 for " + sign, -1 - 6);
            dueRules("a" + sign, sign.equals(":") ? -1 - 2 : -1 - 1);
            dueRules(sign + "a", -1);
        }
    }

    private static void blanks() {
        about("Blanks may stand between words; <= and >= are one word where they can be.");
        dueRules("   a   :   p1   -   p2   <=   -   1   &   stuck   p1   1   for   1   costs   1   ;   ", 1);
        dueRules("a:p1-p2<=-1&stuck p1 1for1costs1;", 1);
        dueRules("a : p1 < = 1" + REST, -1 - 4);
        dueRules("a : p1 > = 1" + REST, -1 - 4);
        dueRules("a:p1<=1 5", -1 - 5);
        dueRules("a:p1>=1 5", -1 - 5);
        dueRules("a:p1<==1", -1 - 4);
        dueRules("a:p1<", -1 - 4);
        dueRules("a:p1<=", -1 - 4);
        dueRules("a:p1>", -1 - 4);
        dueRules("a:p1>=", -1 - 4);
        dueRules("a:p1=", -1 - 4);
        dueRules("a:p1< 1 f", -1 - 5);
        dueRules("a:p 1", -1 - 2);
        dueRules("a:p1<1 0 for", -1 - 5);
        dueRules("a:p1<1 fo r", -1 - 5);
    }

    private static void moreThanMayBe() {
        about("What is more than may be (the seventh rule, & before the seventh test) is wrong at its first word.");
        String six = rules(6, "p1<1");
        dueRules(six + "g:p1<1" + REST, -1 - 60);
        dueRules(six + "g", -1 - 60);
        dueRules(six + "a:p1<1" + REST, -1 - 60);
        dueRules(six + "#", -1 - 60);
        dueRules(six + ";", -1 - 60);
        dueRules(six + "   ", 6);
        String sixTests = "a:" + repeated("p1<1", 6, "&");
        dueRules(sixTests + "&p1<1" + REST, -1 - 25);
        dueRules(sixTests + "&", -1 - 25);
        dueRules(sixTests + "&for", -1 - 25);
        dueRules(sixTests, -1 - 25);
        dueRules(rules(5, "p1<1") + "f:" + repeated("stuck p1 1", 7, "&") + REST, -1 - (50 + 2 + 23));
        dueRules(rules(6, repeated("p1<1", 6, "&")), 6);
    }

    private static void names() {
        about("A NAME is a row of letters that is none of for, costs, stuck, jump, silent, and not that of a rule before it.");
        for (String keyword : new String[] {"for", "costs", "stuck", "jump", "silent"}) {
            dueRules(keyword + ":p1<1" + REST, -1);
            dueRules("a:p1<1" + REST + keyword + ":p1<1" + REST, -1 - 10);
            dueRules(keyword + "x:p1<1" + REST, 1);
            dueRules("x" + keyword + ":p1<1" + REST, 1);
            dueRules(keyword.substring(0, keyword.length() - 1) + ":p1<1" + REST, 1);
        }
        dueRules("a:p1<1" + REST + "a:p1<1" + REST, -1 - 10);
        dueRules("a:p1<1" + REST + "aa:p1<1" + REST, 2);
        dueRules("aa:p1<1" + REST + "a:p1<1" + REST, 2);
        dueRules("abcdefgh:p1<1" + REST + "abcdefgh:p1<1" + REST, -1 - 10);
        dueRules("abcdefgh:p1<1" + REST + "abcdefgi:p1<1" + REST, 2);
        dueRules(rules(5, "p1<1") + "a:p1<1" + REST, -1 - 50);
        dueRules(rules(5, "p1<1") + "e:p1<1" + REST, -1 - 50);
        FaultRules x = withRules("a:p1<1" + REST);
        sayAll(x, "a:p1<1" + REST);
        due("a name of the rules that were is free", () -> x.rules(), 1);
        FaultRules y = new FaultRules();
        sayAll(y, "a:p1<1" + REST + "b");
        due("a text that does not stand", () -> y.rules(), -1 - 11);
        y.trim(1);
        due("takes no name away", () -> y.rules(), 1);
    }

    // ---- Terms: when a test holds

    private static void relationsHold() {
        about("REL: the point has a value (both have), and it (the first less the second) is in that relation to the number.");
        String[] relations = {"<", "<=", "=", ">=", ">"};
        String[] want = {"100", "110", "010", "011", "001"};
        for (int k = 0; k < 5; k++) {
            FaultRules one = withTest("p2" + relations[k] + "5");
            FaultRules two = withTest("p2-p3" + relations[k] + "-5");
            FaultRules firstAlone = withTest("p2-p3" + relations[k] + "0");
            FaultRules secondAlone = withTest("p3-p2" + relations[k] + "0");
            firstAlone.row(2, 1, 0);
            secondAlone.row(2, 1, 0);
            for (int step = 0; step < 3; step++) {
                one.row(2, 10 + step, 4 + step);
                two.row(2, 10 + step, 94 + step);
            }
            two.row(3, 10, 100);
            dueHolds(one, "before the first row", 9, false);
            dueHolds(two, "before the first rows", 9, false);
            dueHolds(firstAlone, "the first alone", 1, false);
            dueHolds(secondAlone, "the second alone", 1, false);
            for (int step = 0; step < 3; step++) {
                dueHolds(one, relations[k] + " at " + (4 + step), 10 + step, want[k].charAt(step) == '1');
                dueHolds(two, relations[k] + " at " + (step - 6), 10 + step, want[k].charAt(step) == '1');
            }
        }
        FaultRules far = withTest("p0-p1>1000000");
        far.row(0, 0, 1000000);
        far.row(1, 0, -1000000);
        far.row(1, 1, 0);
        dueHolds(far, "2000000 apart", 0, true);
        dueHolds(far, "1000000 apart", 1, false);
        FaultRules farDown = withTest("p1-p0<-1000000");
        farDown.row(0, 0, 1000000);
        farDown.row(1, 0, -1000000);
        dueHolds(farDown, "-2000000 apart", 0, true);
    }

    private static void stuckHolds() {
        about("stuck p n: it has a row, and its latest one is n minutes old or older.");
        FaultRules x = withTest("stuck p0 4");
        dueHolds(x, "without a row", 100000, false);
        x.row(0, 10, 1);
        x.row(0, 20, 1);
        dueHolds(x, "before its first row", 9, false);
        dueHolds(x, "3 minutes", 13, false);
        dueHolds(x, "4 minutes", 14, true);
        dueHolds(x, "5 minutes", 15, true);
        dueHolds(x, "to the next row", 19, true);
        dueHolds(x, "not at it, though of the same value", 20, false);
        dueHolds(x, "3 minutes behind the latest", 23, false);
        dueHolds(x, "4 minutes behind the latest", 24, true);
        FaultRules longest = withTest("stuck p0 100000");
        longest.row(0, 0, 1);
        dueHolds(longest, "99999 minutes", 99999, false);
        dueHolds(longest, "100000 minutes", 100000, true);
        about("(In stuck n is 0, too.)");
        FaultRules now = withTest("stuck p0 0");
        dueHolds(now, "0, without a row", 100000, false);
        now.row(0, 10, 1);
        dueHolds(now, "0, before its first row", 9, false);
        dueHolds(now, "0, at it", 10, true);
        dueHolds(now, "0, behind it", 11, true);
    }

    private static void jumpHolds() {
        about("jump p n: it has two rows at least by then, the latest of this very minute, and their values differ by more than n.");
        FaultRules x = withTest("jump p0 4");
        dueHolds(x, "without a row", 10, false);
        x.row(0, 10, 100);
        dueHolds(x, "one row", 10, false);
        x.row(0, 20, 104);
        x.row(0, 21, 109);
        x.row(0, 30, 105);
        x.row(0, 31, 100);
        dueHolds(x, "one row by then", 10, false);
        dueHolds(x, "as much as n", 20, false);
        dueHolds(x, "more than n", 21, true);
        dueHolds(x, "the minute behind", 22, false);
        dueHolds(x, "down as much as n", 30, false);
        dueHolds(x, "down more than n", 31, true);
        dueHolds(x, "behind the last", 32, false);
        FaultRules zero = withTest("jump p0 0");
        zero.row(0, 0, 5);
        zero.row(0, 1, 5);
        zero.row(0, 2, 6);
        dueHolds(zero, "0, one row", 0, false);
        dueHolds(zero, "0, the same value", 1, false);
        dueHolds(zero, "0, another value", 2, true);
        FaultRules far = withTest("jump p0 1000000");
        far.row(0, 0, 1000000);
        far.row(0, 1, -1000000);
        far.row(0, 2, 0);
        dueHolds(far, "2000000", 1, true);
        dueHolds(far, "1000000", 2, false);
        FaultRules other = withTest("jump p1 0");
        other.row(0, 5, 1);
        other.row(1, 5, 9);
        dueHolds(other, "rows of the point alone count", 5, false);
    }

    private static void silentHolds() {
        about("silent p n: it has no row, or its latest one is more than n minutes old.");
        FaultRules x = withTest("silent p0 4");
        dueHolds(x, "without a row", 0, true);
        x.row(0, 10, 1);
        x.row(0, 20, 1);
        dueHolds(x, "before its first row", 9, true);
        dueHolds(x, "at it", 10, false);
        dueHolds(x, "4 minutes", 14, false);
        dueHolds(x, "5 minutes", 15, true);
        dueHolds(x, "to the next row", 19, true);
        dueHolds(x, "at the next row", 20, false);
        dueHolds(x, "5 minutes behind the latest", 25, true);
        FaultRules zero = withTest("silent p0 0");
        zero.row(0, 10, 1);
        dueHolds(zero, "0, before", 9, true);
        dueHolds(zero, "0, at its row", 10, false);
        dueHolds(zero, "0, behind it", 11, true);
        FaultRules longest = withTest("silent p0 99999");
        longest.row(0, 0, 1);
        dueHolds(longest, "99999 minutes", 99999, false);
        dueHolds(longest, "100000 minutes", 100000, true);
    }

    // ---- Terms: firing, runs, faults, causes

    private static void firing() {
        about("A RULE FIRES in a minute if all its tests hold in it, and held in the M - 1 minutes before it (of the run, M being the number behind for).");
        FaultRules x = withRules("a:p0>0&p1>0 for 4 costs 1;");
        onIn(x, 0, 10, 15, 30, 40);
        onIn(x, 1, 13, 20, 33, 36);
        due("3 minutes of both are too few, 4 are enough", () -> x.run(0, 50), 1);
        dueFault(x, 0, 0, 33, 36, 4);
        due("the minutes before the run don't count", () -> x.run(34, 50), 0);
        due("those of the run do", () -> x.run(33, 50), 1);
        due("nor do those behind it", () -> x.run(0, 35), 0);
        due("its last one does", () -> x.run(0, 36), 1);
        FaultRules one = withRules("a:p0>0 for 1 costs 1;");
        onIn(one, 0, 5, 5);
        due("for 1: one minute alone", () -> one.run(0, 10), 1);
        due("in a run of this minute alone", () -> one.run(5, 5), 1);
        FaultRules longer = withRules("a:silent p0 0 for 2000 costs 1;b:silent p0 0 for 2001 costs 1;c:silent p0 0 for 9999 costs 1;");
        due("for 2000 in 2000 minutes", () -> longer.run(0, 1999), 1);
        dueFault(longer, 0, 0, 0, 1999, 2000);
        due("held without a fault", () -> longer.held(2), 2000);
        due("for 2000 in 1999 minutes", () -> longer.run(0, 1998), 0);
    }

    private static void rowsThatComeLater() {
        about("A RUN goes .. by the rows that there are then (rows that come later change nothing of it).");
        FaultRules x = withRules("a:p0>0 for 1 costs 2;b:silent p1 0 for 1 costs 1;");
        x.row(0, 5, 1);
        x.cause(1, 3);
        x.cause(2, 2);
        due("a run", () -> x.run(0, 9), 2);
        x.row(0, 6, 0);
        x.row(1, 0, 0);
        x.row(1, 9, 0);
        due("money", () -> x.money(), 20);
        dueFault(x, 0, 0, 5, 9, 10);
        dueFault(x, 1, 1, 0, 9, 10);
        due("held, a", () -> x.held(0), 5);
        due("held, b", () -> x.held(1), 10);
        due("causes", () -> x.causes(), 2);
        due("but holds is of now", () -> x.holds(1, 0, 9), false);
        due("and so is the next run", () -> x.run(0, 9), 2);
        due("its money", () -> x.money(), 2 + 8);
    }

    private static void stretches() {
        about("A FAULT is a stretch of minutes, as long as can be, in which a rule fires: its beginning is the first minute of its holding (M - 1 before the first firing), its end the last minute in which it fires");
        FaultRules x = withRules("a:p0>0 for 3 costs 1;");
        onIn(x, 0, 10, 14, 16, 18, 20, 21, 23, 23);
        due("a gap of one minute parts them", () -> x.run(0, 100), 2);
        dueFault(x, 0, 0, 10, 14, 5);
        dueFault(x, 1, 0, 16, 18, 3);
        due("a run that begins in the stretch", () -> x.run(11, 100), 2);
        dueFault(x, 0, 0, 11, 14, 4);
        due("a run that ends in the stretch", () -> x.run(0, 13), 1);
        dueFault(x, 0, 0, 10, 13, 4);
        FaultRules same = withRules("a:p0>0 for 2 costs 1;");
        same.row(0, 0, 1);
        same.row(0, 3, 2);
        same.row(0, 6, 1);
        due("rows that change no test part nothing", () -> same.run(0, 8), 1);
        dueFault(same, 0, 0, 0, 8, 9);
        FaultRules whole = withRules("a:silent p0 0 for 1 costs 1;");
        due("the whole of the longest run", () -> whole.run(98001, 100000), 1);
        dueFault(whole, 0, 0, 98001, 100000, 2000);
    }

    private static void costs() {
        about("it COSTS as many times what the rule costs as it has minutes.");
        FaultRules x = withRules("a:p0>0 for 1 costs 7;b:p0>0 for 3 costs 1;c:silent p1 0 for 2000 costs 9999;");
        onIn(x, 0, 0, 0, 5, 7);
        due("one minute, three minutes, and all", () -> x.run(0, 1999), 4);
        dueFault(x, 0, 2, 0, 1999, 2000 * 9999);
        dueFault(x, 1, 0, 5, 7, 21);
        dueFault(x, 2, 0, 0, 0, 7);
        dueFault(x, 3, 1, 5, 7, 3);
    }

    private static void tenCauses() {
        about("CAUSES 0 .. 9 are told with the rules (by their numbers in the text, 0 the first) that they bring about.");
        FaultRules x = withRules("c:silent p0 0 for 1 costs 1;a:p0>0 for 1 costs 1;b:silent p1 0 for 1 costs 1;");
        x.run(0, 0);
        due("cause 0", () -> x.cause(0, 1), 0);
        due("cause 9", () -> x.cause(9, 4), 0);
        due("cause -1", () -> x.cause(-1, 1), ARGUMENT);
        due("cause 10", () -> x.cause(10, 1), ARGUMENT);
        due("least", () -> x.cause(LEAST, 1), ARGUMENT);
        due("greatest", () -> x.cause(GREATEST, 1), ARGUMENT);
        due("both together", () -> x.causes(), 512 + 1);
        x.cause(0, 2);
        due("by numbers, not by names", () -> x.causes(), -1);
    }

    private static void explaining() {
        about("They EXPLAIN a run if each rule with a fault is brought about by one of them.");
        FaultRules x = withRules("a:silent p0 0 for 1 costs 1;b:silent p0 0 for 3 costs 1;c:silent p0 0 for 2 costs 1;");
        x.cause(3, 1);
        x.run(0, 0);
        due("a alone has a fault", () -> x.causes(), 8);
        x.run(0, 1);
        due("c has one, too", () -> x.causes(), -1);
        x.cause(3, 5);
        due("both by one", () -> x.causes(), 8);
        x.run(0, 2);
        due("b has one, too", () -> x.causes(), -1);
        x.cause(5, 2);
        due("by two", () -> x.causes(), 8 + 32);
        x.cause(5, 2 + 8 + 16 + 32);
        due("rules that are not there do no harm", () -> x.causes(), 8 + 32);
    }

    private static void causesStay() {
        about("(What a cause brings about stays, whatever rules there are.)");
        FaultRules x = new FaultRules();
        due("without rules", () -> x.cause(2, 63), 0);
        due("no rules", () -> x.rules(), 0);
        due("is kept", () -> x.cause(2, 32), 63);
        sayAll(x, rules(6, "silent p0 0"));
        due("six rules", () -> x.rules(), 6);
        x.run(0, 0);
        due("the sixth alone", () -> x.causes(), -1);
        due("is kept again", () -> x.cause(2, 1), 32);
        sayAll(x, rules(1, "silent p0 0"));
        due("one rule", () -> x.rules(), 1);
        x.run(0, 0);
        due("by the cause of before", () -> x.causes(), 4);
    }

    // ---- Terms: exceptions

    /** All that an object can hold: rows, rules, a run, a text, minutes left out, causes. */
    private static FaultRules furnished() {
        FaultRules x = new FaultRules();
        x.row(0, 5, 1);
        x.row(0, 9, 3);
        x.row(1, 5, 4);
        x.row(1, 7, 2);
        sayAll(x, "hot:p0>0&p1<5 for 2 costs 3;mute:silent p2 0 for 1 costs 1;");
        x.rules();
        x.leave(6, true);
        x.leave(100000, true);
        x.cause(0, 1);
        x.cause(9, 2);
        x.run(3, 12);
        sayAll(x, "next:p0<7");
        return x;
    }

    private static void note(StringBuilder all, FaultRules x, Call call) {
        all.append(answer(() -> call.on(x))).append(' ');
    }

    /** All that calls can tell of an object; it is of no use behind that. */
    private static String told(FaultRules x) {
        StringBuilder all = new StringBuilder();
        for (int k = 0; k < 16; k++) {
            int n = k;
            note(all, x, y -> y.value(n, 8));
            note(all, x, y -> y.value(n, 100000));
        }
        note(all, x, y -> y.money());
        note(all, x, y -> y.causes());
        for (int k = 0; k < 12; k++) {
            int n = k;
            note(all, x, y -> y.fault(n / 4, n % 4));
        }
        for (int k = 0; k < 6; k++) {
            int n = k;
            note(all, x, y -> y.held(n));
            note(all, x, y -> y.holds(n, 0, 6));
            note(all, x, y -> y.holds(n, 1, 100000));
        }
        for (int part = 0; part < 3; part++) {
            int n = part;
            note(all, x, y -> y.line(0, 1, 0, 12, n));
        }
        for (int minute : new int[] {0, 5, 6, 7, 99999, 100000}) {
            note(all, x, y -> y.leave(minute, false));
        }
        for (int k = 0; k < 10; k++) {
            int n = k;
            note(all, x, y -> y.cause(n, 0));
        }
        note(all, x, y -> y.trim(0));
        sayAll(x, " for 3 costs 4;");
        note(all, x, y -> y.rules());
        note(all, x, y -> y.run(0, 20));
        note(all, x, y -> y.money());
        for (int k = 0; k < 16; k++) {
            int n = k;
            note(all, x, y -> y.row(n, 99999, 0));
        }
        return all.toString();
    }

    private static final Call[] WRONG_NUMBERS = {
        x -> x.row(-1, 50, 0), x -> x.row(16, 50, 0), x -> x.row(3, -1, 0), x -> x.row(3, 100001, 0),
        x -> x.row(3, 50, -1000001), x -> x.row(3, 50, 1000001),
        x -> x.value(-1, 50), x -> x.value(16, 50), x -> x.value(0, -1), x -> x.value(0, 100001),
        x -> x.value(0, 4), x -> x.value(2, 50),
        x -> x.say(0x0100000000000000L), x -> x.say(0x611fL), x -> x.say(0x7f61L), x -> x.say(-1L), x -> x.say(Long.MIN_VALUE),
        x -> x.trim(-1), x -> x.trim(10), x -> x.trim(LEAST), x -> x.trim(GREATEST),
        x -> x.run(-1, 5), x -> x.run(5, 4), x -> x.run(99999, 100001), x -> x.run(0, 2000), x -> x.run(LEAST, GREATEST),
        x -> x.run(GREATEST, LEAST), x -> x.run(0, LEAST), x -> x.run(-2000, -1999), x -> x.run(100001, 100001),
        x -> x.fault(-1, 0), x -> x.fault(LEAST, 0), x -> x.fault(0, -1), x -> x.fault(0, 4), x -> x.fault(GREATEST, 4),
        x -> x.held(-1), x -> x.held(2), x -> x.held(6), x -> x.held(GREATEST),
        x -> x.holds(-1, 0, 0), x -> x.holds(2, 0, 0), x -> x.holds(6, 0, 0), x -> x.holds(0, -1, 0), x -> x.holds(0, 2, 0),
        x -> x.holds(1, 1, 0), x -> x.holds(0, 6, 0), x -> x.holds(0, 0, -1), x -> x.holds(0, 0, 100001),
        x -> x.line(-1, 0, 0, 5, 0), x -> x.line(16, 0, 0, 5, 0), x -> x.line(0, -1, 0, 5, 0), x -> x.line(0, 16, 0, 5, 0),
        x -> x.line(0, 1, -1, 5, 0), x -> x.line(0, 1, 99999, 100001, 0), x -> x.line(0, 1, 0, 60, 0),
        x -> x.line(0, 1, LEAST, GREATEST, 0), x -> x.line(0, 1, 0, 5, -1), x -> x.line(0, 1, 0, 5, 3),
        x -> x.leave(-1, true), x -> x.leave(100001, true), x -> x.leave(-1, false), x -> x.leave(100001, false),
        x -> x.cause(-1, 1), x -> x.cause(10, 1), x -> x.cause(0, -1), x -> x.cause(0, 64), x -> x.cause(0, LEAST)};

    private static void numbersOutOfBounds() {
        about("In all calls illegal argument: a number is out of its bounds.");
        FaultRules x = furnished();
        for (int k = 0; k < WRONG_NUMBERS.length; k++) {
            Call call = WRONG_NUMBERS[k];
            due("wrong number " + k, () -> call.on(x), ARGUMENT);
        }
    }

    private static void firstNamedException() {
        about("Of several exceptions the one named first is thrown");
        FaultRules x = furnished();
        due("row: the latest is behind it", () -> x.row(0, 5, 1000001), ARGUMENT);
        for (int k = 10; k < 126; k++) {
            x.row(15, k, 0);
        }
        due("row: there are 120", () -> x.row(16, 50, 0), ARGUMENT);
        due("row: there are 120", () -> x.row(3, 100001, 0), ARGUMENT);
        FaultRules full = new FaultRules();
        sayAll(full, repeated(" ", 1000, ""));
        due("say: 1000 are there", () -> full.say(0x6101L), ARGUMENT);
        due("say: 1000 are there", () -> full.say(0x61616161616161ffL), ARGUMENT);
        FaultRules empty = new FaultRules();
        due("run: no rules", () -> empty.run(5, 4), ARGUMENT);
        due("run: no rules", () -> empty.run(0, 2000), ARGUMENT);
        due("fault: no run, k", () -> empty.fault(-1, 0), ARGUMENT);
        due("fault: no run, what", () -> empty.fault(0, 4), ARGUMENT);
        due("held: no run", () -> empty.held(0), ARGUMENT);
        for (int k = 0; k < 100; k++) {
            empty.leave(k, true);
        }
        due("leave: 100 are left out", () -> empty.leave(100001, true), ARGUMENT);
        due("leave: 100 are left out", () -> empty.leave(-1, true), ARGUMENT);
    }

    private static void throwingChangesNothing() {
        about("a call that throws changes nothing.");
        String want = told(furnished());
        for (int k = 0; k < WRONG_NUMBERS.length; k++) {
            Call call = WRONG_NUMBERS[k];
            FaultRules x = furnished();
            due("wrong number " + k, () -> call.on(x), ARGUMENT);
            due("behind wrong number " + k, () -> told(x), want);
        }
        FaultRules x = furnished();
        due("row of the same minute", () -> x.row(0, 9, 7), STATE);
        due("row of a minute before", () -> x.row(0, 8, 7), STATE);
        due("behind these", () -> told(x), want);
        FaultRules rowsFull = furnished();
        FaultRules rowsFullTwin = furnished();
        for (int k = 10; k < 126; k++) {
            rowsFull.row(15, k, k);
            rowsFullTwin.row(15, k, k);
        }
        due("row 121", () -> rowsFull.row(2, 0, 7), STATE);
        due("behind it", () -> told(rowsFull), told(rowsFullTwin));
    }

    private static void refusedForItsState() {
        about("a call that throws changes nothing: illegal state.");
        FaultRules text = new FaultRules();
        sayAll(text, "a:silent p0 0" + REST + repeated(" ", 999 - 28, ""));
        due("two more than 999", () -> text.say(word("  ")), STATE);
        due("none of the two came", () -> text.trim(0), 999);
        due("one more", () -> text.say(' '), 1000);
        due("eight more than 1000", () -> text.say(word("????????")), STATE);
        due("the text stands as it was", () -> text.rules(), 1);
        FaultRules left = new FaultRules();
        for (int k = 0; k < 100; k++) {
            left.leave(k, true);
        }
        due("the 101st", () -> left.leave(100, true), STATE);
        due("it is not left out", () -> left.leave(100, false), false);
        due("the first still is", () -> left.leave(0, false), true);
        due("the hundredth still is", () -> left.leave(99, false), true);
        FaultRules none = new FaultRules();
        none.cause(0, 63);
        due("run without rules", () -> none.run(0, 5), STATE);
        dueNoRun(none);
        sayAll(none, "a:silent p0 0" + REST);
        none.rules();
        due("held without a run", () -> none.held(0), STATE);
        dueNoRun(none);
        due("then a run is as ever", () -> none.run(0, 5), 1);
        due("and its causes", () -> none.causes(), 1);
    }

    // ---- the promises, one by one

    private static void aNewObject() {
        about("Promise 1: No rows, text, rules, run, causes.");
        FaultRules x = new FaultRules();
        for (int point = 0; point < 16; point++) {
            int p = point;
            due("no row", () -> x.value(p, 100000), ARGUMENT);
        }
        due("no text", () -> x.trim(1), ARGUMENT);
        due("no rule to hold", () -> x.holds(0, 0, 0), ARGUMENT);
        due("no rule to run", () -> x.run(0, 0), STATE);
        due("no run", () -> x.held(0), ARGUMENT);
        dueNoRun(x);
        for (int cause = 0; cause < 10; cause++) {
            int c = cause;
            due("no cause", () -> x.cause(c, 0), 0);
        }
        for (int minute : new int[] {0, 1, 100000}) {
            due("none left out", () -> x.leave(minute, false), false);
        }
        FaultRules other = furnished();
        due("objects know nothing of one another", () -> x.value(0, 100000), ARGUMENT);
        due("nor of one another's runs", () -> x.money(), STATE);
        due("the other one has its own", () -> other.money() > 0, true);
    }

    private static void promise2Row() {
        about("Promise 2: how many rows the point has. .. illegal state: its latest row is at that minute or behind it, or there are 120 rows.");
        FaultRules x = new FaultRules();
        due("the first", () -> x.row(3, 1, 0), 1);
        due("of another", () -> x.row(4, 1, 0), 1);
        due("the second", () -> x.row(3, 2, 0), 2);
        due("at its latest", () -> x.row(3, 2, 0), STATE);
        due("before its latest", () -> x.row(3, 1, 0), STATE);
        due("before all", () -> x.row(3, 0, 0), STATE);
        for (int k = 3; k < 120; k++) {
            int n = k;
            due("row " + k, () -> x.row(3, n, 0), n);
        }
        due("120 are there", () -> x.row(3, 121, 0), STATE);
        due("for others, too", () -> x.row(5, 0, 0), STATE);
    }

    private static void promise3Value() {
        about("Promise 3: What a point has at a minute. Illegal argument: also if it has nothing.");
        FaultRules x = new FaultRules();
        due("it has no row", () -> x.value(0, 0), ARGUMENT);
        x.row(0, 1, 0);
        due("it has none yet", () -> x.value(0, 0), ARGUMENT);
        due("0 is a value", () -> x.value(0, 1), 0);
        due("the next point has none", () -> x.value(1, 1), ARGUMENT);
        x.row(15, 0, -1);
        due("the last point has one", () -> x.value(15, 0), -1);
        due("the point before it has none", () -> x.value(14, 100000), ARGUMENT);
    }

    private static void promise4Say() {
        about("Promise 4: Up to eight characters come behind the text: the bytes of word, the highest first, those that are 0 left out: how many characters it has.");
        FaultRules x = new FaultRules();
        due("none", () -> x.say(0L), 0);
        due("one, in the lowest byte", () -> x.say(0x61L), 1);
        due("one, in the highest byte", () -> x.say(0x3a00000000000000L), 2);
        due("four, with zeros between", () -> x.say(0x730074007500630aL & ~0xffL), 6);
        due("eight", () -> x.say(word("k p0 0 f")), 14);
        due("the rest", () -> x.say(word("or 1 cos")), 22);
        due("of it", () -> x.say(word("ts 1;")), 27);
        due("as it was said", () -> x.rules(), 1);
        x.row(0, 0, 0);
        due("a stuck p0 0", () -> x.holds(0, 0, 1), true);
        about("Promise 4: Illegal argument: a byte is none of 0, 32 .. 126");
        for (int shift = 0; shift < 64; shift += 8) {
            int s = shift;
            for (int bad : new int[] {1, 31, 127, 128, 255}) {
                due(bad + " at " + s, () -> new FaultRules().say((long) bad << s), ARGUMENT);
                due(bad + " at " + s + " among others", () -> new FaultRules().say(word("aaaaaaaa") & ~(255L << s) | (long) bad << s), ARGUMENT);
            }
            for (int good : new int[] {32, 126}) {
                due(good + " at " + s, () -> new FaultRules().say((long) good << s), 1);
                due(good + " at " + s + " among others", () -> new FaultRules().say(word("aaaaaaaa") & ~(255L << s) | (long) good << s), 8);
            }
        }
        about("Promise 4: illegal state: there would be more than 1000.");
        for (int size = 1; size <= 8; size++) {
            FaultRules y = new FaultRules();
            sayAll(y, repeated(" ", 1000 - size, ""));
            long just = word(repeated("a", size, ""));
            due("just " + size, () -> y.say(just), 1000);
            due("none more", () -> y.say(0L), 1000);
            due("one more", () -> y.say(0x2000L), STATE);
            y.trim(size - 1);
            due(size + " where there is room for " + (size - 1), () -> y.say(just), STATE);
        }
    }

    /** What rules() answers for a text without its last characters. */
    private static void dueTrimmed(String text, int n, int want) {
        FaultRules x = new FaultRules();
        sayAll(x, text);
        due("'" + text + "' less " + n, () -> x.trim(n), text.length() - n);
        due("rules of '" + text + "' less " + n, () -> x.rules(), want);
    }

    private static void promise5Trim() {
        about("Promise 5: The last n characters of the text go: how many it has. Illegal argument: n is below 0, or more than there are.");
        FaultRules x = new FaultRules();
        due("none of none", () -> x.trim(0), 0);
        due("one of none", () -> x.trim(1), ARGUMENT);
        sayAll(x, "a:silent p0 0" + REST + "b;");
        due("none", () -> x.trim(0), 30);
        due("-1", () -> x.trim(-1), ARGUMENT);
        due("one too many", () -> x.trim(31), ARGUMENT);
        due("the last two", () -> x.trim(2), 28);
        due("the rest is as it was", () -> x.rules(), 1);
        due("rules leave no text", () -> x.trim(1), ARGUMENT);
        dueTrimmed("abcdefghi", 1, -1 - 1);
        dueTrimmed("a:p15 5", 2, -1 - 3);
        dueTrimmed("a:p155", 1, -1 - 3);
        dueTrimmed("a:p1a", 1, -1 - 3);
        dueTrimmed("a:pa", 1, -1 - 2);
        dueTrimmed("a:p1<10000000", 1, -1 - 5);
        dueTrimmed("a:p1<1 fork", 1, -1 - 6);
        dueTrimmed("a:p1<=1", 2, -1 - 4);
        dueTrimmed("a:p1<1 for 1 costs 1;;", 1, 1);
        dueTrimmed("a:p1<1 for 1 costs 1; b", 1, 1);
        dueTrimmed("a:p1<1 for 1 costs 1;b", 1, 1);
        sayAll(x, repeated("a", 1000, ""));
        due("1001 of 1000", () -> x.trim(1001), ARGUMENT);
        due("all of 1000", () -> x.trim(1000), 0);
        due("and room again", () -> x.say(word("aaaaaaaa")), 8);
    }

    private static void promise6Rules() {
        about("Promise 6: how many rules, which are the rules then, and the text is empty; there is no run any more.");
        FaultRules x = furnished();
        sayAll(x, " for 1 costs 1;");
        due("one rule", () -> x.rules(), 1);
        due("no text", () -> x.trim(1), ARGUMENT);
        dueNoRun(x);
        due("no run of it", () -> x.held(0), STATE);
        due("no second rule", () -> x.held(1), ARGUMENT);
        due("the new test", () -> x.holds(0, 0, 9), true);
        due("no second test", () -> x.holds(0, 1, 9), ARGUMENT);
        x.run(0, 9);
        due("an empty text is no rules", () -> x.rules(), 0);
        dueNoRun(x);
        due("nothing to run", () -> x.run(0, 9), STATE);
        due("nothing held", () -> x.held(0), ARGUMENT);
        about("Promise 6: or how many words there are; changing nothing.");
        String whole = "a:p1-p2<-1&stuck p1 1 for 1 costs 1;";
        String[] words = {"a", ":", "p1", "-", "p2", "<", "-", "1", "&", "stuck ", "p1 ", "1 ", "for ", "1 ", "costs ", "1", ";"};
        StringBuilder part = new StringBuilder();
        for (int k = 0; k < words.length; k++) {
            part.append(words[k]);
            dueRules(part.toString(), k == words.length - 1 ? 1 : -1 - (k + 1));
            dueRules(whole + part.toString().replace('a', 'b'), k == words.length - 1 ? 2 : -1 - (17 + k + 1));
        }
        FaultRules y = furnished();
        due("wrong", () -> y.rules(), -1 - 5);
        due("changing nothing", () -> told(y), told(furnished()));
        FaultRules z = furnished();
        sayAll(z, repeated("&p0<7", 5, "") + REST + rules(5, "p0<0") + "g");
        due("wrong behind six rules", () -> z.rules(), -1 - (30 + 50));
        z.trim(5 * 5 + REST.length() + rules(5, "p0<0").length() + 1);
        due("changing nothing", () -> told(z), told(furnished()));
    }

    private static void promise6RulesAgain() {
        about("Promise 6: how many rules, which are the rules then");
        FaultRules x = new FaultRules();
        String many = rules(6, repeated("silent p0 0", 6, "&"));
        String few = "a:p1<1&silent p0 0" + REST + "b:silent p0 0" + REST;
        for (String text : new String[] {many, many, few, few, "", "", few, few, many, many}) {
            boolean isMany = text.equals(many);
            int count = isMany ? 6 : text.isEmpty() ? 0 : 2;
            sayAll(x, text);
            due("rules", () -> x.rules(), count);
            due("the first test of the first", () -> x.holds(0, 0, 0), count == 0 ? ARGUMENT : isMany);
            due("its second test", () -> x.holds(0, 1, 0), count == 0 ? ARGUMENT : true);
            due("its third test", () -> x.holds(0, 2, 0), isMany ? true : ARGUMENT);
            due("the second test of the second", () -> x.holds(1, 1, 0), isMany ? true : ARGUMENT);
            due("the third", () -> x.holds(2, 0, 0), isMany ? true : ARGUMENT);
            due("the sixth", () -> x.holds(5, 5, 0), isMany ? true : ARGUMENT);
            due("the seventh", () -> x.holds(6, 0, 0), ARGUMENT);
            due("without a run", () -> x.held(count), ARGUMENT);
            due("a run", () -> x.run(0, 9), isMany ? 6 : count == 0 ? STATE : 1);
            due("a rule behind the last", () -> x.held(count), ARGUMENT);
            due("the last rule", () -> x.held(count - 1), count == 0 ? ARGUMENT : 10);
        }
    }

    private static void promise6WordsThatCannotStand() {
        about("Promise 6: the first word (0 the first) that cannot stand where it stands, as a number or a point out of its bounds or a name that was, too");
        String[] words = "b : p1 - p2 < - 1 & stuck p1 1 for 1 costs 1 ;".split(" ");
        String relations = " < <= = >= > ";
        String watches = " stuck jump silent ";
        String small = " 1 9999 ";
        String numbers = " 0 1 9999 10000 1000000 ";
        String[] mayStand = {" b ", " : ", " p2 " + watches, " - " + relations, " p2 ", relations, " - " + numbers, numbers, " & for ",
            " p2 " + watches, " p2 ", numbers, " & for ", small, " costs ", small, " ; "};
        String all = " a b abcdefghi 0 1 9999 10000 1000000 1000001 00000001 p p2 p16 p123 : & ; - # A for costs " + watches + relations;
        String before = "a : p1 < 1 for 1 costs 1 ; ";
        for (int k = 0; k < words.length; k++) {
            for (String word : all.trim().split(" +")) {
                String[] spoilt = words.clone();
                spoilt[k] = word;
                if (!mayStand[k].contains(" " + word + " ")) {
                    dueRules(before + String.join(" ", spoilt), -1 - (10 + k));
                    dueRules(before + String.join(" ", Arrays.copyOf(spoilt, k + 1)), -1 - (10 + k));
                }
            }
        }
        dueRules(before + String.join(" ", words), 2);
    }

    private static void promise7Run() {
        about("Promise 7: A RUN, 2000 minutes at most .. from is below 0, to is below it, above 100000, or too far; illegal state: there are no rules.");
        FaultRules x = withTest("silent p0 0");
        due("one minute", () -> x.run(7, 7), 1);
        due("2000 minutes", () -> x.run(0, 1999), 1);
        due("2001 minutes", () -> x.run(0, 2000), ARGUMENT);
        due("2000 minutes, the last ones", () -> x.run(98001, 100000), 1);
        due("2001 minutes, the last ones", () -> x.run(98000, 100000), ARGUMENT);
        due("from 0", () -> x.run(0, 0), 1);
        due("from -1", () -> x.run(-1, 0), ARGUMENT);
        due("to below from", () -> x.run(1, 0), ARGUMENT);
        due("to far below from", () -> x.run(100000, 0), ARGUMENT);
        due("to 100000", () -> x.run(100000, 100000), 1);
        due("to 100001", () -> x.run(100000, 100001), ARGUMENT);
        due("all ints", () -> x.run(LEAST, GREATEST), ARGUMENT);
        due("from 0 to the greatest", () -> x.run(0, GREATEST), ARGUMENT);
        due("from the least to 0", () -> x.run(LEAST, 0), ARGUMENT);
        due("round the end of ints", () -> x.run(GREATEST, LEAST), ARGUMENT);
        due("the last run that was stays", () -> x.fault(0, 1), 100000);
        due("no rules", () -> new FaultRules().run(0, 0), STATE);
        x.rules();
        due("no rules any more", () -> x.run(0, 0), STATE);
    }

    private static void promise7MostFaults() {
        about("Promise 7: how many faults (as many as can be)");
        FaultRules x = withRules(rules(6, "silent p0 0"));
        for (int k = 0; k < 120; k++) {
            x.row(0, 2 * k + 1, 0);
        }
        due("between 120 rows, before and behind them, six times", () -> x.run(0, 1999), 6 * 121);
        due("the last", () -> x.fault(6 * 121 - 1, 1), 238);
        due("its rule", () -> x.fault(6 * 121 - 1, 0), 5);
        due("none behind it", () -> x.fault(6 * 121, 0), -1);
        due("money", () -> x.money(), 6 * (2000 - 120));
        due("no fault", () -> x.run(1, 1), 0);
        due("none at all", () -> x.fault(0, 0), -1);
    }

    private static void promise8Fault() {
        about("Promise 8: Of fault k of the run, the dearest first, of these by their rules' names, then beginnings");
        FaultRules x = withRules("b:p0>0 for 1 costs 2;ab:p1>0 for 1 costs 2;a:p2>0 for 1 costs 2;"
                + "abcdefgh:p3>0 for 1 costs 1;abcdefgg:p3>0 for 1 costs 1;z:p4>0 for 1 costs 1;");
        onIn(x, 0, 0, 1, 10, 11);
        onIn(x, 1, 5, 6, 20, 21);
        onIn(x, 2, 30, 31);
        onIn(x, 3, 1, 4);
        onIn(x, 4, 50, 52, 60, 64);
        due("faults", () -> x.run(0, 99), 9);
        dueFault(x, 0, 5, 60, 64, 5);
        dueFault(x, 1, 2, 30, 31, 4);
        dueFault(x, 2, 1, 5, 6, 4);
        dueFault(x, 3, 1, 20, 21, 4);
        dueFault(x, 4, 4, 1, 4, 4);
        dueFault(x, 5, 3, 1, 4, 4);
        dueFault(x, 6, 0, 0, 1, 4);
        dueFault(x, 7, 0, 10, 11, 4);
        dueFault(x, 8, 5, 50, 52, 3);
        about("Promise 8: NONE if there is none such.");
        dueFault(x, 9, -1, -1, -1, -1);
        dueFault(x, GREATEST, -1, -1, -1, -1);
        x.run(98, 99);
        dueFault(x, 0, -1, -1, -1, -1);
        about("Promise 8: Illegal argument: also if k is below 0; illegal state: there is no run.");
        due("k -1", () -> x.fault(-1, 0), ARGUMENT);
        due("what -1", () -> x.fault(0, -1), ARGUMENT);
        due("what 4", () -> x.fault(0, 4), ARGUMENT);
        due("what 4 of none such", () -> x.fault(9999, 4), ARGUMENT);
        due("no run", () -> new FaultRules().fault(0, 0), STATE);
    }

    private static void promise9Money() {
        about("Promise 9: What all faults cost. Illegal state: there is no run.");
        StringBuilder dear = new StringBuilder();
        for (char c = 'a'; c <= 'f'; c++) {
            dear.append(c).append(":silent p0 0 for 1 costs 9999;");
        }
        FaultRules x = withRules(dear.toString());
        due("no run", () -> x.money(), STATE);
        x.run(0, 1999);
        due("as much as can be", () -> x.money(), 6 * 2000 * 9999);
        x.row(0, 0, 0);
        x.run(0, 0);
        due("a run without faults", () -> x.money(), 0);
    }

    private static void promise10Held() {
        about("Promise 10: In how many minutes of the run a rule's tests held. Illegal argument: no such rule; illegal state: there is no run.");
        FaultRules x = withRules("a:p0>0 for 3 costs 1;b:p0>0&p1>0 for 1 costs 1;");
        onIn(x, 0, 5, 6, 10, 14);
        onIn(x, 1, 14, 20);
        due("no run", () -> x.held(1), STATE);
        due("no such rule, no run", () -> x.held(2), ARGUMENT);
        x.run(0, 99);
        due("also in stretches too short for a fault", () -> x.held(0), 7);
        due("all of its tests", () -> x.held(1), 1);
        due("rule -1", () -> x.held(-1), ARGUMENT);
        due("rule 2", () -> x.held(2), ARGUMENT);
        x.run(6, 10);
        due("of the run alone", () -> x.held(0), 2);
        x.run(0, 4);
        due("in none", () -> x.held(0), 0);
        x.run(14, 14);
        due("in all", () -> x.held(1), 1);
    }

    private static void promise11Holds() {
        about("Promise 11: Whether a rule's test k holds in a minute (not only of a run). Illegal argument: also if there is none such.");
        FaultRules x = withRules("a:silent p0 0&p0>0 for 1 costs 1;b:silent p0 9 for 1 costs 1;");
        x.row(0, 50, 1);
        due("without a run", () -> x.holds(0, 0, 49), true);
        x.run(50, 50);
        due("outside of the run", () -> x.holds(0, 0, 100000), true);
        due("in it", () -> x.holds(0, 1, 50), true);
        due("the last test", () -> x.holds(0, 1, 49), false);
        due("behind the last test", () -> x.holds(0, 2, 49), ARGUMENT);
        due("test -1", () -> x.holds(0, -1, 49), ARGUMENT);
        due("the last rule", () -> x.holds(1, 0, 49), true);
        due("behind the last rule", () -> x.holds(2, 0, 49), ARGUMENT);
        due("rule -1", () -> x.holds(-1, 0, 49), ARGUMENT);
        due("behind its last test, where another rule has one", () -> x.holds(1, 1, 49), ARGUMENT);
    }

    private static void promise12Line() {
        about("Promise 12: over the minutes from .. to (60 at most) in which both have one and which are not LEFT OUT");
        FaultRules x = new FaultRules();
        x.row(0, 10, 1);
        x.row(0, 12, 7);
        x.row(1, 11, 0);
        x.row(1, 13, 4);
        due("60 minutes", () -> x.line(0, 1, 0, 59, 2), 49);
        due("61 minutes", () -> x.line(0, 1, 0, 60, 2), ARGUMENT);
        due("the last 60 minutes", () -> x.line(0, 1, 99941, 100000, 2), 60);
        due("the last 61 minutes", () -> x.line(0, 1, 99940, 100000, 2), ARGUMENT);
        due("from behind to", () -> x.line(0, 1, 6, 5, 2), ARGUMENT);
        dueLine(x, 9, 9, 0, 0, 0);
        dueLine(x, 10, 10, 0, 0, 0);
        dueLine(x, 9, 11, 0, 0, 1);
        dueLine(x, 9, 12, 0, 0, 2);
        dueLine(x, 9, 13, 3, 4, 3);
        x.leave(11, true);
        dueLine(x, 9, 13, 0, 1, 2);
        x.leave(13, true);
        dueLine(x, 9, 13, 0, 0, 1);
        x.leave(12, true);
        dueLine(x, 9, 13, 0, 0, 0);
        about("Promise 12: Illegal argument: also if part is not 0 .. 2.");
        due("part -1", () -> x.line(0, 1, 0, 5, -1), ARGUMENT);
        due("part 3", () -> x.line(0, 1, 0, 5, 3), ARGUMENT);
        due("part 3 of nothing", () -> new FaultRules().line(0, 1, 0, 5, 3), ARGUMENT);
    }

    private static void promise12Steepness() {
        about("Promise 12: its steepness is up / low in lowest terms, low above 0 .. Up and low 0 if all of the other one's values are the same, or there is none.");
        int[][] cases = {
            {0, 0, 4, 6, 3, 2}, {0, 6, 4, 0, -3, 2}, {4, 0, 0, 6, -3, 2}, {4, 6, 0, 0, 3, 2}, {0, 5, 4, 5, 0, 1}, {4, 0, 4, 6, 0, 0},
            {-1000000, -1000000, 1000000, 1000000, 1, 1}, {-1000000, 1000000, 999999, -1000000, -2000000, 1999999},
            {0, 0, 1000000, 1, 1, 1000000}, {0, 0, 1, -1000000, -1000000, 1}};
        for (int[] c : cases) {
            FaultRules x = new FaultRules();
            x.row(1, 0, c[0]);
            x.row(0, 0, c[1]);
            x.row(1, 1, c[2]);
            x.row(0, 1, c[3]);
            dueLine(x, 0, 1, c[4], c[5], 2);
        }
        FaultRules none = new FaultRules();
        dueLine(none, 0, 59, 0, 0, 0);
        none.row(0, 0, 5);
        dueLine(none, 0, 59, 0, 0, 0);
        FaultRules widest = new FaultRules();
        for (int k = 0; k < 60; k++) {
            widest.row(0, k, k < 30 ? 1000000 : -1000000);
            widest.row(1, k, k < 30 ? -1000000 : 1000000);
        }
        dueLine(widest, 0, 59, -1, 1, 60);
        due("a point over itself", () -> widest.line(0, 0, 0, 59, 0), 1);
        due("a point over itself, low", () -> widest.line(0, 0, 0, 59, 1), 1);
    }

    private static void promise13Leave() {
        about("Promise 13: A minute is LEFT OUT of lines, or not: whether it was. .. illegal state: it would be the 101st that is.");
        FaultRules x = new FaultRules();
        due("not left out, and not now", () -> x.leave(5, false), false);
        due("now", () -> x.leave(5, true), false);
        due("it is", () -> x.leave(5, true), true);
        due("no more", () -> x.leave(5, false), true);
        due("it is not", () -> x.leave(5, false), false);
        for (int k = 0; k < 100; k++) {
            int minute = k == 99 ? 100000 : k;
            due("number " + k, () -> x.leave(minute, true), false);
        }
        due("the 101st", () -> x.leave(99, true), STATE);
        due("one that is left out is not the 101st", () -> x.leave(100000, true), true);
        due("nor one that is not to be", () -> x.leave(99, false), false);
        due("one comes back", () -> x.leave(0, false), true);
        due("so there is room", () -> x.leave(99, true), false);
        due("for one", () -> x.leave(0, true), STATE);
        for (int k = 1; k < 100; k++) {
            int minute = k;
            due("minute " + k + " is left out", () -> x.leave(minute, false), true);
        }
    }

    private static void promise14Cause() {
        about("Promise 14: A cause brings about rules, as bits (0 .. 63; 0: it is none): what it did.");
        FaultRules x = withTest("silent p0 0");
        x.run(0, 0);
        for (int cause = 0; cause < 10; cause++) {
            int c = cause;
            due("63", () -> x.cause(c, 63), 0);
            due("it explains", () -> x.causes(), 1 << c);
            due("64", () -> x.cause(c, 64), ARGUMENT);
            due("-1", () -> x.cause(c, -1), ARGUMENT);
            due("0", () -> x.cause(c, 0), 63);
            due("it is none", () -> x.causes(), -1);
            due("it was none", () -> x.cause(c, 0), 0);
        }
    }

    private static void promise15Causes() {
        about("Promise 15: The fewest causes that EXPLAIN the run, as bits; of several sets the least as a number; NONE if all together do not. Illegal state: there is no run.");
        FaultRules x = withRules(rules(6, "silent p0 0"));
        due("no run", () -> x.causes(), STATE);
        x.run(0, 0);
        due("no causes", () -> x.causes(), -1);
        for (int k = 0; k < 5; k++) {
            x.cause(k, 1 << k);
        }
        due("one rule is left", () -> x.causes(), -1);
        x.cause(5, 32);
        due("six, one for each", () -> x.causes(), 63);
        x.cause(9, 1 + 2);
        due("five", () -> x.causes(), 512 + 32 + 16 + 8 + 4);
        x.cause(8, 3);
        due("five, less as a number", () -> x.causes(), 256 + 32 + 16 + 8 + 4);
        x.cause(7, 1 + 4 + 16);
        x.cause(6, 2 + 8 + 32);
        due("two", () -> x.causes(), 128 + 64);
        x.cause(9, 63);
        due("one, greater as a number", () -> x.causes(), 512);
        x.cause(0, 63);
        due("one, the least", () -> x.causes(), 1);
        x.row(0, 0, 0);
        due("the run is as it was", () -> x.causes(), 1);
        x.run(0, 0);
        due("no faults, no causes", () -> x.causes(), 0);
        for (int k = 0; k < 10; k++) {
            x.cause(k, 0);
        }
        due("not even told", () -> x.causes(), 0);
    }

    private static void none() {
        about("NONE = -1: There is none.");
        FaultRules x = withTest("silent p0 0");
        due("the constant", () -> FaultRules.NONE, -1);
        x.run(0, 0);
        due("no second fault", () -> x.fault(1, 0) == FaultRules.NONE, true);
        due("no causes", () -> x.causes() == FaultRules.NONE, true);
    }

    public static void main(String[] args) {
        fiveHundredAndTwelveCalls();
        points();
        minutes();
        values();
        risingMinutes();
        rowsTogether();
        whatAPointHas();
        textCharacters();
        sixRulesPerhapsNone();
        oneToSixTests();
        ruleNumbers();
        formsOfTests();
        pointsInTheText();
        relationsInTheText();
        numbersInTheText();
        longWords();
        eachAsLongAsCanBe();
        pWithItsDigits();
        signsAndOtherCharacters();
        blanks();
        moreThanMayBe();
        names();
        relationsHold();
        stuckHolds();
        jumpHolds();
        silentHolds();
        firing();
        rowsThatComeLater();
        stretches();
        costs();
        tenCauses();
        explaining();
        causesStay();
        numbersOutOfBounds();
        firstNamedException();
        throwingChangesNothing();
        refusedForItsState();
        none();
        aNewObject();
        promise2Row();
        promise3Value();
        promise4Say();
        promise5Trim();
        promise6Rules();
        promise6RulesAgain();
        promise6WordsThatCannotStand();
        promise7Run();
        promise7MostFaults();
        promise8Fault();
        promise9Money();
        promise10Held();
        promise11Holds();
        promise12Line();
        promise12Steepness();
        promise13Leave();
        promise14Cause();
        promise15Causes();
        finish();
    }
}
