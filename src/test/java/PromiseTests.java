import java.lang.reflect.Constructor;
import java.lang.reflect.Field;
import java.lang.reflect.Method;
import java.lang.reflect.Modifier;
import java.util.Arrays;
import java.util.TreeSet;

/** Each promise of the document: ordinary inputs, the edges that it names, and wrong inputs. */
public final class PromiseTests extends Checks {
    private static void face() {
        TreeSet<String> got = new TreeSet<>();
        for (Constructor<?> c : FaultRules.class.getDeclaredConstructors()) {
            got.add(c.toString());
        }
        TreeSet<String> names = new TreeSet<>();
        for (Method m : FaultRules.class.getDeclaredMethods()) {
            if (!Modifier.isPrivate(m.getModifiers())) {
                got.add(m.toString());
                names.add(m.getName());
            }
        }
        for (Method m : FaultRules.class.getDeclaredMethods()) {
            if (Modifier.isPrivate(m.getModifiers())) {
                due("a private method of a public name", () -> names.contains(m.getName()), false);
            }
        }
        for (Field f : FaultRules.class.getDeclaredFields()) {
            if (!Modifier.isPrivate(f.getModifiers())) {
                got.add(f.toString());
            }
        }
        String both = " throws java.lang.IllegalArgumentException,java.lang.IllegalStateException";
        String argument = " throws java.lang.IllegalArgumentException";
        String state = " throws java.lang.IllegalStateException";
        TreeSet<String> want = new TreeSet<>(Arrays.asList(
            "public FaultRules()",
            "public static final int FaultRules.NONE",
            "public int FaultRules.row(int,int,int)" + both,
            "public int FaultRules.value(int,int)" + argument,
            "public int FaultRules.say(long)" + both,
            "public int FaultRules.trim(int)" + argument,
            "public int FaultRules.rules()",
            "public int FaultRules.run(int,int)" + both,
            "public int FaultRules.fault(int,int)" + both,
            "public int FaultRules.money()" + state,
            "public int FaultRules.held(int)" + both,
            "public boolean FaultRules.holds(int,int,int)" + argument,
            "public long FaultRules.line(int,int,int,int,int)" + argument,
            "public boolean FaultRules.leave(int,boolean)" + both,
            "public int FaultRules.cause(int,int)" + argument,
            "public int FaultRules.causes()" + state));
        due("the face", () -> got, want);
        due("the class is public and final", () -> Modifier.toString(FaultRules.class.getModifiers()), "public final");
        due("NONE", () -> FaultRules.NONE, -1);
    }

    private static void promise1NewObject() {
        FaultRules x = new FaultRules();
        due("a new text", () -> x.trim(0), 0);
        due("more than a new text", () -> x.trim(1), ARGUMENT);
        for (int point = 0; point < 16; point++) {
            int p = point;
            due("a new point", () -> x.value(p, 100000), ARGUMENT);
        }
        due("held of no rule", () -> x.held(0), ARGUMENT);
        due("holds of no rule", () -> x.holds(0, 0, 0), ARGUMENT);
        due("a run without rules", () -> x.run(0, 0), STATE);
        dueNoRun(x);
        due("a line of nothing", () -> x.line(0, 1, 0, 59, 2), 0);
        for (int cause = 0; cause < 10; cause++) {
            int c = cause;
            due("a new cause", () -> x.cause(c, 0), 0);
        }
        due("a minute not left out", () -> x.leave(0, false), false);
        due("rules of a new object", () -> x.rules(), 0);
    }

    private static void promise2Row() {
        FaultRules x = new FaultRules();
        due("first row", () -> x.row(3, 0, -1000000), 1);
        due("same minute", () -> x.row(3, 0, 5), STATE);
        due("next minute", () -> x.row(3, 1, 1000000), 2);
        due("minute before", () -> x.row(3, 0, 5), STATE);
        due("another point", () -> x.row(15, 0, 1), 1);
        due("a point before", () -> x.row(0, 50, 7), 1);
        due("last minute", () -> x.row(3, 100000, 9), 3);
        due("point -1", () -> x.row(-1, 5, 0), ARGUMENT);
        due("point 16", () -> x.row(16, 5, 0), ARGUMENT);
        due("minute -1", () -> x.row(4, -1, 0), ARGUMENT);
        due("minute 100001", () -> x.row(4, 100001, 0), ARGUMENT);
        due("value below", () -> x.row(4, 5, -1000001), ARGUMENT);
        due("value above", () -> x.row(4, 5, 1000001), ARGUMENT);
        due("least ints", () -> x.row(Integer.MIN_VALUE, Integer.MIN_VALUE, Integer.MIN_VALUE), ARGUMENT);
        due("argument before state", () -> x.row(3, 0, 1000001), ARGUMENT);
        due("nothing was changed", () -> x.row(4, 6, 0), 1);
        due("nor of the others", () -> x.value(3, 99999), 1000000);
        for (int k = 6; k < 120; k++) {
            int n = k;
            due("row " + k, () -> x.row(5, n, n), n - 5);
        }
        due("row 121", () -> x.row(5, 500, 0), STATE);
        due("row 121 of another", () -> x.row(6, 500, 0), STATE);
        due("argument before full", () -> x.row(16, 500, 0), ARGUMENT);
        due("still 114", () -> x.value(5, 500), 119);
        due("none of the other", () -> x.value(6, 500), ARGUMENT);
        due("the point behind", () -> x.value(15, 500), 1);
        due("the point before", () -> x.value(0, 500), 7);
    }

    private static void promise3Value() {
        FaultRules x = new FaultRules();
        x.row(2, 10, 5);
        x.row(2, 20, -6);
        due("before the first", () -> x.value(2, 9), ARGUMENT);
        due("at the first", () -> x.value(2, 10), 5);
        due("behind the first", () -> x.value(2, 19), 5);
        due("at the second", () -> x.value(2, 20), -6);
        due("long behind", () -> x.value(2, 100000), -6);
        due("back again", () -> x.value(2, 10), 5);
        due("another point", () -> x.value(1, 10), ARGUMENT);
        due("and one more", () -> x.value(3, 10), ARGUMENT);
        due("point -1", () -> x.value(-1, 10), ARGUMENT);
        due("point 16", () -> x.value(16, 10), ARGUMENT);
        due("minute -1", () -> x.value(2, -1), ARGUMENT);
        due("minute 100001", () -> x.value(2, 100001), ARGUMENT);
    }

    private static void promise4Say() {
        FaultRules x = new FaultRules();
        due("say of nothing", () -> x.say(0), 0);
        due("eight", () -> x.say(word("abcdefgh")), 8);
        due("zeros left out", () -> x.say(0x2000007e00000041L), 11);
        for (int bad : new int[] {1, 31, 127, 128, 255}) {
            for (int shift = 0; shift < 64; shift += 8) {
                int s = shift;
                due("byte " + bad, () -> x.say((long) bad << s), ARGUMENT);
                due("byte " + bad + " among good ones", () -> x.say(word("aaaaaaaa") & ~(255L << s) | (long) bad << s), ARGUMENT);
            }
        }
        due("nothing was said", () -> x.say(0), 11);
        x.trim(11);
        for (int k = 1; k <= 124; k++) {
            int n = 8 * k;
            due("say " + k, () -> x.say(word("        ")), n);
        }
        due("seven more", () -> x.say(word("       ")), 999);
        due("two too many", () -> x.say(word("  ")), STATE);
        due("argument before state", () -> x.say(word(" \t")), ARGUMENT);
        due("the last", () -> x.say(word("a") << 56), 1000);
        due("one too many", () -> x.say(word("a")), STATE);
        due("none is not too many", () -> x.say(0), 1000);
        due("the text is what was said", () -> x.rules(), -2);
        FaultRules y = new FaultRules();
        y.say(0x6100003a00000070L);
        y.say(word("1<1 for "));
        y.say(word("1 costs "));
        y.say(word("1;"));
        due("in their order, without zeros", () -> y.rules(), 1);
    }

    private static void promise5Trim() {
        FaultRules x = new FaultRules();
        sayAll(x, "a:p1<1 for 1 costs 1;xyz");
        due("none", () -> x.trim(0), 24);
        due("below 0", () -> x.trim(-1), ARGUMENT);
        due("least int", () -> x.trim(Integer.MIN_VALUE), ARGUMENT);
        due("too many", () -> x.trim(25), ARGUMENT);
        due("greatest int", () -> x.trim(Integer.MAX_VALUE), ARGUMENT);
        due("the last three", () -> x.trim(3), 21);
        due("the first stay", () -> x.rules(), 1);
        sayAll(x, "abc");
        due("all", () -> x.trim(3), 0);
        due("empty again", () -> x.trim(1), ARGUMENT);
    }

    private static void promise6RulesThatStand() {
        dueRules("", 0);
        dueRules("    ", 0);
        dueRules("a:p1<1 for 1 costs 1;", 1);
        dueRules("  a  :  p1  <  1  for  1  costs  1  ;  ", 1);
        dueRules("a:p1<1for1costs1;b:p1<1for1costs1;", 2);
        dueRules("abcdefgh: p00 <= 0000000 for 0000001 costs 0009999;", 1);
        dueRules("a:p15>=-1000000 for 9999 costs 1;", 1);
        dueRules("a:p09 - p0 = - 1000000 for 1 costs 1;", 1);
        dueRules("a:p1-p1--5", -6);
        dueRules("a:p1-p1>-5 for 1 costs 1;", 1);
        dueRules("a:p1-p1>5 & stuck p1 0 & jump p2 0 & silent p3 0 & p1=0 & p1>0 for 1 costs 1;", 1);
        dueRules("a:stuckp1 5", -3);
        dueRules("a:stuck p1 1000000 for 1 costs 1;", 1);
        dueRules("a:p1>1&jump p5 2 for 1 costs 1;pp:p1>1 for 1 costs 1;fo:p1>1 for 1 costs 1;", 3);
        dueRules("forx:p1>1 for 1 costs 1;cost:p1>1 for 1 costs 1;ab:p1>1 for 1 costs 1;a:p1>1 for 1 costs 1;", 4);
        StringBuilder six = new StringBuilder();
        for (char c = 'a'; c < 'g'; c++) {
            six.append(c).append(":p1<1 for 1 costs 1;");
        }
        dueRules(six.toString(), 6);
        dueRules(six + " ", 6);
        dueRules(six + "g:p1<1 for 1 costs 1;", -1 - 60);
        dueRules(six + ";", -1 - 60);
        dueRules("a:p1<1&p1<1&p1<1&p1<1&p1<1&p1<1 for 1 costs 1;", 1);
        dueRules("a:p1<1&p1<1&p1<1&p1<1&p1<1&p1<1&p1<1 for 1 costs 1;", -1 - 25);
    }

    private static void promise6FirstWrongWord() {
        dueRules("a", -2);
        dueRules("a ", -2);
        dueRules("a: p1 < 5 for 1 costs 1", -10);
        dueRules("a: p1 < 5 for 1 costs 1; b", -12);
        for (String keyword : new String[] {"for", "costs", "stuck", "jump", "silent"}) {
            dueRules(keyword + ": p1<5 for 1 costs 1;", -1);
        }
        dueRules("a:p1<1 for 1 costs 1; a:p1<1 for 1 costs 1;", -11);
        dueRules("abcdefghi:p1<1", -1);
        dueRules("A:p1<1", -1);
        dueRules("5:p1<1", -1);
        dueRules("p:p1<1", -1);
        dueRules("p1:p1<1", -1);
        dueRules("a1:p1<1", -2);
        dueRules("a::", -3);
        dueRules("a:b", -3);
        dueRules("a:for", -3);
        dueRules("a:p16<1", -3);
        dueRules("a:p99<1", -3);
        dueRules("a:p001<1", -3);
        dueRules("a:p 1<1", -3);
        dueRules("a:pp1<1", -3);
        dueRules("a:p1a<1", -4);
        dueRules("a:p1p2<1", -4);
        dueRules("a:p1 5", -4);
        dueRules("a:p1<", -5);
        dueRules("a:p1<p2", -5);
        dueRules("a:p1<+5", -5);
        dueRules("a:p1< =5", -5);
        dueRules("a:p1<<5", -5);
        dueRules("a:p1<==5", -5);
        dueRules("a:p1=<5", -5);
        dueRules("a:p1<>5", -5);
        dueRules("a:p1<1000001", -5);
        dueRules("a:p1<-1000001", -6);
        dueRules("a:p1<00000000", -5);
        dueRules("a:p1<12345678901234567890", -5);
        dueRules("a:p1<--5", -6);
        dueRules("a:p1-5<5", -5);
        dueRules("a:p1-p16<5", -5);
        dueRules("a:p1-p2-p3<5", -6);
        dueRules("a:p1-p2 5", -6);
        dueRules("a:5<p1", -3);
        dueRules("a:stuck 5", -4);
        dueRules("a:stuck p1 -5", -5);
        dueRules("a:jump p1 > 5", -5);
        dueRules("a:silent p1 - p2 5", -5);
        dueRules("a:jump p16 5", -4);
        dueRules("a:jump p1 1000001", -5);
        dueRules("a:p1<5 5", -6);
        dueRules("a:p1<5 costs 5", -6);
        dueRules("a:p1<5 fo 5", -6);
        dueRules("a:p1<5&for", -7);
        dueRules("a:p1<5&&p1<5", -7);
        dueRules("a:p1<5 for 0", -7);
        dueRules("a:p1<5 for 10000", -7);
        dueRules("a:p1<5 for -1", -7);
        dueRules("a:p1<5 for costs", -7);
        dueRules("a:p1<5 for 1;", -8);
        dueRules("a:p1<5 for 1 for 1;", -8);
        dueRules("a:p1<5 for 1 costs 0;", -9);
        dueRules("a:p1<5 for 1 costs 10000;", -9);
        dueRules("a:p1<5 for 1 costs -1;", -9);
        dueRules("a:p1<5 for 1 costs 1 1", -10);
        dueRules("a:p1<5 for 1 costs 1;;", -11);
        dueRules("# a", -1);
        dueRules("a##", -2);
        dueRules("a ~", -2);
    }

    private static void promise6WhatItChanges() {
        FaultRules x = withRules("a:p0>0 for 1 costs 2;");
        x.row(0, 0, 1);
        due("a run", () -> x.run(0, 4), 1);
        sayAll(x, "b:");
        due("wrong text", () -> x.rules(), -3);
        due("the run stays", () -> x.money(), 10);
        due("the rules stay", () -> x.held(0), 5);
        due("the text stays", () -> x.trim(0), 2);
        sayAll(x, "p1>0&p2<0&p3=0 for 7 costs 9; c: p1<0");
        due("wrong far behind", () -> x.rules(), -24);
        due("the old test stays", () -> x.holds(0, 0, 0), true);
        due("no other test came", () -> x.holds(0, 1, 0), ARGUMENT);
        due("no other rule came", () -> x.holds(1, 0, 0), ARGUMENT);
        due("the old rule runs", () -> x.run(0, 4), 1);
        due("at its cost", () -> x.money(), 10);
        x.trim(8);
        due("now it stands", () -> x.rules(), 1);
        dueNoRun(x);
        due("the rule is new", () -> x.held(0), STATE);
        due("with three tests", () -> x.holds(0, 2, 0), false);
        due("the text is gone", () -> x.trim(0), 0);
        due("no text is no rules", () -> x.rules(), 0);
        due("none to run", () -> x.run(0, 0), STATE);
        due("none to hold", () -> x.holds(0, 0, 0), ARGUMENT);
    }

    private static void promise7Run() {
        FaultRules x = withRules("a:p0>0 for 3 costs 2;");
        for (int k = 0; k < 6; k++) {
            x.row(0, 10 * k, k % 2 == 0 ? 1 : 0);
        }
        due("two stretches and a bit", () -> x.run(0, 41), 2);
        dueFault(x, 0, 0, 0, 9, 20);
        dueFault(x, 1, 0, 20, 29, 20);
        due("long enough", () -> x.run(0, 42), 3);
        dueFault(x, 2, 0, 40, 42, 6);
        due("holding begins with the run", () -> x.run(8, 30), 1);
        due("just long enough", () -> x.run(7, 30), 2);
        dueFault(x, 1, 0, 7, 9, 6);
        due("one minute", () -> x.run(3, 3), 0);
        due("2000 minutes", () -> x.run(0, 1999), 3);
        due("2000 minutes at the end", () -> x.run(98001, 100000), 0);
        due("2001 minutes", () -> x.run(0, 2000), ARGUMENT);
        due("below 0", () -> x.run(-1, 5), ARGUMENT);
        due("to below from", () -> x.run(6, 5), ARGUMENT);
        due("above 100000", () -> x.run(99999, 100001), ARGUMENT);
        due("both above", () -> x.run(100001, 100001), ARGUMENT);
        due("whole range of ints", () -> x.run(Integer.MIN_VALUE, Integer.MAX_VALUE), ARGUMENT);
        due("greatest ints", () -> x.run(Integer.MAX_VALUE, Integer.MIN_VALUE), ARGUMENT);
        due("the run stays", () -> x.money(), 0);
        due("argument before state", () -> new FaultRules().run(0, 2000), ARGUMENT);
        due("a run before", () -> x.run(45, 55), 1);
        x.row(1, 3, 3);
        x.row(0, 52, 9);
        dueFault(x, 0, 0, 45, 49, 10);
        due("later rows change nothing", () -> x.held(0), 5);
        due("nor faults", () -> x.fault(1, 0), -1);
        due("but the next run", () -> x.run(45, 55), 2);
    }

    private static void promise7MostFaults() {
        StringBuilder text = new StringBuilder();
        for (char c = 'a'; c < 'g'; c++) {
            text.append(c).append(":silent p0 0 for 1 costs ").append(c - 'a' + 1).append(";");
        }
        FaultRules x = withRules(text.toString());
        for (int k = 0; k < 120; k++) {
            x.row(0, 3 * k + 1, k);
        }
        due("a stretch round each row, six times", () -> x.run(0, 1999), 726);
        due("the dearest", () -> x.fault(0, 3), (1999 - 358) * 6);
        due("the last", () -> x.fault(725, 1), 0);
        due("the last but one", () -> x.fault(724, 0), 1);
        due("behind the last", () -> x.fault(726, 1), -1);
        due("money", () -> x.money(), (1 + 119 * 2 + 1999 - 358) * 21);
    }

    private static void promise8Fault() {
        FaultRules x = withRules("b:p0>0 for 1 costs 3; ab:p1>0 for 1 costs 3; a:p2>0 for 1 costs 1; aa:p1>0 for 2 costs 3;");
        x.row(0, 5, 1);
        x.row(0, 7, 0);
        x.row(0, 10, 1);
        x.row(0, 12, 0);
        x.row(1, 20, 1);
        x.row(1, 22, 0);
        x.row(2, 30, 1);
        x.row(2, 36, 0);
        x.row(2, 40, 1);
        x.row(2, 47, 0);
        due("faults", () -> x.run(0, 100), 6);
        dueFault(x, 0, 2, 40, 46, 7);
        dueFault(x, 1, 2, 30, 35, 6);
        dueFault(x, 2, 3, 20, 21, 6);
        dueFault(x, 3, 1, 20, 21, 6);
        dueFault(x, 4, 0, 5, 6, 6);
        dueFault(x, 5, 0, 10, 11, 6);
        dueFault(x, 6, -1, -1, -1, -1);
        dueFault(x, Integer.MAX_VALUE, -1, -1, -1, -1);
        due("k below 0", () -> x.fault(-1, 0), ARGUMENT);
        due("what below 0", () -> x.fault(0, -1), ARGUMENT);
        due("what above 3", () -> x.fault(0, 4), ARGUMENT);
        due("what above 3 of none", () -> x.fault(100, 4), ARGUMENT);
        FaultRules y = new FaultRules();
        due("argument before state: k", () -> y.fault(-1, 0), ARGUMENT);
        due("argument before state: what", () -> y.fault(0, 4), ARGUMENT);
        due("no run", () -> y.fault(0, 3), STATE);
    }

    private static void promise9Money() {
        FaultRules x = withRules("a:silent p0 0 for 1 costs 9999;b:silent p0 0 for 2000 costs 9999;c:p0>0 for 1 costs 5;");
        due("no run yet", () -> x.money(), STATE);
        due("both", () -> x.run(0, 1999), 2);
        due("dear", () -> x.money(), 2 * 2000 * 9999);
        due("one", () -> x.run(1, 1999), 1);
        due("less dear", () -> x.money(), 1999 * 9999);
        x.row(0, 0, 0);
        due("none", () -> x.run(0, 0), 0);
        due("nothing", () -> x.money(), 0);
    }

    private static void promise10Held() {
        FaultRules x = withRules("a:p0>0&p1>0 for 5 costs 1;b:p0>0 for 5 costs 1;");
        x.row(0, 5, 1);
        x.row(1, 7, 1);
        x.row(1, 9, 0);
        due("no run", () -> x.held(0), STATE);
        due("no such rule before no run", () -> x.held(2), ARGUMENT);
        x.run(0, 19);
        due("both tests", () -> x.held(0), 2);
        due("one test", () -> x.held(1), 15);
        due("rule -1", () -> x.held(-1), ARGUMENT);
        due("rule 2", () -> x.held(2), ARGUMENT);
        due("least int", () -> x.held(Integer.MIN_VALUE), ARGUMENT);
        x.run(8, 8);
        due("anew", () -> x.held(0), 1);
    }

    private static void promise11HoldsRelations() {
        String[] relations = {"<", "<=", "=", ">=", ">"};
        boolean[][] want = {{true, false, false}, {true, true, false}, {false, true, false}, {false, true, true}, {false, false, true}};
        for (int k = 0; k < relations.length; k++) {
            String one = "p3" + relations[k] + "-4";
            FaultRules x = withTest(one);
            x.row(3, 10, -5);
            x.row(3, 11, -4);
            x.row(3, 12, -3);
            dueHolds(x, one, 9, false);
            String two = "p3-p4" + relations[k] + "7";
            FaultRules y = withTest(two);
            y.row(3, 10, 1000000);
            y.row(4, 11, 999994);
            y.row(4, 12, 999993);
            y.row(4, 13, 999992);
            dueHolds(y, two, 9, false);
            dueHolds(y, two, 10, false);
            for (int minute = 0; minute < 3; minute++) {
                dueHolds(x, one, 10 + minute, want[k][minute]);
                dueHolds(y, two, 11 + minute, want[k][minute]);
            }
            FaultRules z = withTest(two);
            z.row(4, 5, 1);
            dueHolds(z, two, 6, false);
        }
        FaultRules x = withTest("p0-p1=1000000");
        x.row(0, 0, 1000000);
        x.row(1, 0, 1);
        x.row(1, 1, 0);
        x.row(1, 2, -1000000);
        dueHolds(x, "less by one", 0, false);
        dueHolds(x, "just", 1, true);
        dueHolds(x, "far more", 2, false);
        FaultRules same = withTest("p1-p01=0");
        dueHolds(same, "nothing", 0, false);
        same.row(1, 0, 77);
        dueHolds(same, "itself", 0, true);
    }

    private static void promise11HoldsWatches() {
        FaultRules stuck = withTest("stuck p5 3");
        FaultRules stuckNow = withTest("stuck p5 0");
        FaultRules silent = withTest("silent p5 3");
        FaultRules silentNow = withTest("silent p5 0");
        for (FaultRules x : new FaultRules[] {stuck, stuckNow, silent, silentNow}) {
            x.row(5, 10, 1);
            x.row(5, 20, 1);
        }
        boolean[] stuckWant = {false, false, false, false, true, true};
        boolean[] silentWant = {true, false, false, false, false, true};
        for (int k = 0; k < 6; k++) {
            dueHolds(stuck, "stuck", 9 + k, stuckWant[k]);
            dueHolds(silent, "silent", 9 + k, silentWant[k]);
            dueHolds(stuck, "stuck", 19 + k, k == 0 || stuckWant[k]);
            dueHolds(silent, "silent", 19 + k, silentWant[k]);
            dueHolds(stuckNow, "stuck 0", 9 + k, k > 0);
            dueHolds(silentNow, "silent 0", 9 + k, k != 1);
        }
        FaultRules jump = withTest("jump p5 3");
        FaultRules jumpAny = withTest("jump p5 0");
        for (FaultRules x : new FaultRules[] {jump, jumpAny}) {
            x.row(5, 10, 100);
            x.row(5, 11, 103);
            x.row(5, 20, 107);
            x.row(5, 22, 103);
            x.row(5, 23, 103);
            x.row(5, 30, -1000000);
            x.row(5, 31, 1000000);
        }
        boolean[] jumpWant = {false, false, false, false, true, false, true, false, false, true, true, false};
        int[] minutes = {9, 10, 11, 12, 20, 21, 22, 23, 24, 30, 31, 32};
        for (int k = 0; k < minutes.length; k++) {
            dueHolds(jump, "jump 3", minutes[k], jumpWant[k]);
            dueHolds(jumpAny, "jump 0", minutes[k], jumpWant[k] || minutes[k] == 11);
        }
        FaultRules far = withTest("jump p5 1000000");
        far.row(5, 0, -1000000);
        far.row(5, 1, 0);
        far.row(5, 2, -1000000);
        far.row(5, 3, 1);
        dueHolds(far, "as much", 1, false);
        dueHolds(far, "as much down", 2, false);
        dueHolds(far, "more", 3, true);
    }

    private static void promise11HoldsWrong() {
        FaultRules x = withRules("a:silent p0 0&p0>0 for 1 costs 1;b:p0>0 for 1 costs 1;");
        due("without a run", () -> x.holds(0, 0, 0), true);
        due("the second test", () -> x.holds(0, 1, 100000), false);
        due("the second rule", () -> x.holds(1, 0, 0), false);
        due("no third test", () -> x.holds(0, 2, 0), ARGUMENT);
        due("no second test", () -> x.holds(1, 1, 0), ARGUMENT);
        due("test -1", () -> x.holds(0, -1, 0), ARGUMENT);
        due("test -1 of rule 1", () -> x.holds(1, -1, 0), ARGUMENT);
        due("rule -1", () -> x.holds(-1, 0, 0), ARGUMENT);
        due("rule 2", () -> x.holds(2, 0, 0), ARGUMENT);
        due("rule 6", () -> x.holds(6, 0, 0), ARGUMENT);
        due("minute -1", () -> x.holds(0, 0, -1), ARGUMENT);
        due("minute 100001", () -> x.holds(0, 0, 100001), ARGUMENT);
        x.run(5, 6);
        x.row(0, 5, 1);
        due("by the rows of now", () -> x.holds(0, 1, 5), true);
        due("not only in a run", () -> x.holds(0, 0, 50), true);
    }

    private static void promise12Line() {
        FaultRules x = new FaultRules();
        x.row(0, 10, 5);
        x.row(0, 12, 20);
        x.row(1, 11, 0);
        x.row(1, 13, 19);
        dueLine(x, 0, 10, 0, 0, 0);
        dueLine(x, 0, 11, 0, 0, 1);
        dueLine(x, 11, 12, 0, 0, 2);
        dueLine(x, 11, 13, 15, 38, 3);
        dueLine(x, 0, 13, 15, 38, 3);
        dueLine(x, 12, 13, 0, 1, 2);
        dueLine(x, 20, 79, 0, 0, 60);
        due("to itself", () -> x.line(0, 0, 10, 12, 0), 1);
        due("to itself", () -> x.line(0, 0, 10, 12, 1), 1);
        due("the other way", () -> x.line(1, 0, 11, 13, 0), 19);
        due("the other way", () -> x.line(1, 0, 11, 13, 1), 30);
        FaultRules down = new FaultRules();
        down.row(0, 0, 1000000);
        down.row(1, 0, -1000000);
        down.row(0, 1, -1000000);
        down.row(1, 1, 999999);
        dueLine(down, 0, 1, -2000000, 1999999, 2);
        dueLine(down, 0, 59, -2000000, 1999999, 60);
        FaultRules wide = new FaultRules();
        for (int k = 0; k < 60; k++) {
            wide.row(0, k, k % 2 == 0 ? 1000000 : -1000000 + k);
            wide.row(1, k, k % 2 == 0 ? -1000000 : 1000000 - 3 * k);
        }
        long n = 60;
        long sx = 0, sy = 0, sxx = 0, sxy = 0;
        for (int k = 0; k < 60; k++) {
            long y = k % 2 == 0 ? 1000000 : -1000000 + k;
            long v = k % 2 == 0 ? -1000000 : 1000000 - 3 * k;
            sx += v;
            sy += y;
            sxx += v * v;
            sxy += v * y;
        }
        java.math.BigInteger up = java.math.BigInteger.valueOf(n * sxy - sx * sy);
        java.math.BigInteger low = java.math.BigInteger.valueOf(n * sxx - sx * sx);
        dueLine(wide, 0, 59, up.divide(up.gcd(low)).longValue(), low.divide(up.gcd(low)).longValue(), 60);
    }

    private static void promise12LineWrong() {
        FaultRules x = new FaultRules();
        due("60 minutes", () -> x.line(15, 0, 99941, 100000, 2), 0);
        due("61 minutes", () -> x.line(0, 1, 0, 60, 2), ARGUMENT);
        due("from below 0", () -> x.line(0, 1, -1, 5, 2), ARGUMENT);
        due("to below from", () -> x.line(0, 1, 6, 5, 2), ARGUMENT);
        due("to above 100000", () -> x.line(0, 1, 99999, 100001, 2), ARGUMENT);
        due("part -1", () -> x.line(0, 1, 0, 5, -1), ARGUMENT);
        due("part 3", () -> x.line(0, 1, 0, 5, 3), ARGUMENT);
        due("point -1", () -> x.line(-1, 1, 0, 5, 2), ARGUMENT);
        due("point 16", () -> x.line(16, 1, 0, 5, 2), ARGUMENT);
        due("other -1", () -> x.line(0, -1, 0, 5, 2), ARGUMENT);
        due("other 16", () -> x.line(0, 16, 0, 5, 2), ARGUMENT);
        due("all ints", () -> x.line(0, 1, Integer.MIN_VALUE, Integer.MAX_VALUE, 2), ARGUMENT);
    }

    private static void promise13Leave() {
        FaultRules x = new FaultRules();
        x.row(0, 0, 1);
        x.row(1, 0, 1);
        x.row(0, 1, 5);
        x.row(1, 2, 3);
        dueLine(x, 0, 2, 1, 1, 3);
        due("not yet", () -> x.leave(1, true), false);
        dueLine(x, 0, 2, 2, 1, 2);
        due("again", () -> x.leave(1, true), true);
        due("one more", () -> x.leave(0, true), false);
        dueLine(x, 0, 2, 0, 0, 1);
        due("back", () -> x.leave(1, false), true);
        due("back again", () -> x.leave(1, false), false);
        dueLine(x, 0, 2, 0, 1, 2);
        due("the other stays", () -> x.leave(0, false), true);
        dueLine(x, 0, 2, 1, 1, 3);
        due("minute -1", () -> x.leave(-1, true), ARGUMENT);
        due("minute 100001", () -> x.leave(100001, false), ARGUMENT);
        due("minute 100000", () -> x.leave(100000, true), false);
        for (int k = 0; k < 99; k++) {
            int minute = 3 * k;
            due("minute " + minute, () -> x.leave(minute, true), false);
        }
        due("the 101st", () -> x.leave(1, true), STATE);
        due("argument before state", () -> x.leave(100001, true), ARGUMENT);
        due("not the 101st", () -> x.leave(3, true), true);
        due("nothing to take back", () -> x.leave(1, false), false);
        due("one back", () -> x.leave(150, false), true);
        due("room for one", () -> x.leave(1, true), false);
        due("and no more", () -> x.leave(150, true), STATE);
        for (int k = 0; k < 99; k++) {
            int minute = 3 * k;
            due("minute " + minute + " still", () -> x.leave(minute, false), minute != 150);
        }
        FaultRules y = withTest("silent p0 0");
        y.leave(1, true);
        y.run(0, 2);
        due("left out of lines, not of runs", () -> y.held(0), 3);
    }

    private static void promise14Cause() {
        FaultRules x = new FaultRules();
        due("none before", () -> x.cause(9, 63), 0);
        due("what it did", () -> x.cause(9, 5), 63);
        due("another", () -> x.cause(0, 1), 0);
        due("none again", () -> x.cause(9, 0), 5);
        due("and none", () -> x.cause(9, 7), 0);
        due("cause -1", () -> x.cause(-1, 0), ARGUMENT);
        due("cause 10", () -> x.cause(10, 0), ARGUMENT);
        due("rules -1", () -> x.cause(9, -1), ARGUMENT);
        due("rules 64", () -> x.cause(9, 64), ARGUMENT);
        due("nothing was changed", () -> x.cause(9, 1), 7);
        x.rules();
        due("it stays, whatever rules there are", () -> x.cause(9, 2), 1);
    }

    private static void promise15Causes() {
        FaultRules x = withRules("a:silent p0 0 for 1 costs 1;b:silent p1 0 for 1 costs 1;c:silent p2 0 for 1 costs 1;d:p0>5 for 1 costs 1;");
        x.cause(0, 1);
        due("no run", () -> x.causes(), STATE);
        x.run(0, 0);
        due("not all", () -> x.causes(), -1);
        x.cause(1, 2);
        x.cause(2, 4);
        due("all three", () -> x.causes(), 7);
        x.cause(9, 3);
        due("two with the ninth", () -> x.causes(), 512 + 4);
        x.cause(5, 6);
        due("the least of two sets", () -> x.causes(), 32 + 1);
        x.cause(8, 7);
        due("one alone", () -> x.causes(), 256);
        x.cause(7, 63);
        due("one alone, less", () -> x.causes(), 128);
        x.cause(7, 0);
        x.cause(8, 0);
        due("two again", () -> x.causes(), 33);
        x.cause(0, 0);
        due("none of one", () -> x.causes(), 512 + 4);
        x.row(0, 0, 9);
        x.row(1, 0, 0);
        x.row(2, 0, 0);
        due("the run is as it was", () -> x.causes(), 512 + 4);
        x.run(0, 0);
        due("d has a fault, and no cause", () -> x.causes(), -1);
        x.cause(0, 8);
        due("d has one", () -> x.causes(), 1);
        x.row(0, 1, 0);
        x.row(1, 1, 0);
        x.row(2, 1, 0);
        x.run(1, 1);
        due("no faults need no causes", () -> x.causes(), 0);
        FaultRules y = withRules("a:silent p0 0 for 2 costs 1;");
        y.run(0, 0);
        due("held, but no fault", () -> y.causes(), 0);
    }

    public static void main(String[] args) {
        face();
        promise1NewObject();
        promise2Row();
        promise3Value();
        promise4Say();
        promise5Trim();
        promise6RulesThatStand();
        promise6FirstWrongWord();
        promise6WhatItChanges();
        promise7Run();
        promise7MostFaults();
        promise8Fault();
        promise9Money();
        promise10Held();
        promise11HoldsRelations();
        promise11HoldsWatches();
        promise11HoldsWrong();
        promise12Line();
        promise12LineWrong();
        promise13Leave();
        promise14Cause();
        promise15Causes();
        finish();
    }
}
