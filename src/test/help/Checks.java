import java.util.concurrent.Callable;

/** What the project's tests have in common: answers that are due, texts, objects with rules. */
abstract class Checks {
    static final String ARGUMENT = "throws.IllegalArgumentException";
    static final String STATE = "throws.IllegalStateException";
    private static int checks = 0;
    private static int wrong = 0;
    private static String about = "";

    /** What the next answers are about; it is printed with those that are not as due. */
    static void about(String words) {
        about = words + ": ";
    }

    static String answer(Callable<Object> call) {
        try {
            return String.valueOf(call.call());
        } catch (Throwable e) {
            return "throws." + e.getClass().getSimpleName();
        }
    }

    static void due(String what, Callable<Object> call, Object want) {
        String got = answer(call);
        checks++;
        if (!got.equals(String.valueOf(want))) {
            wrong++;
            System.out.println(about + what + " answered " + got + ", due is " + want);
        }
    }

    /** The end of a test's main method: exit code 1 if an answer was not as due. */
    static void finish() {
        System.out.println(checks + " answers, " + wrong + " not as due");
        if (wrong != 0) {
            System.exit(1);
        }
    }

    /** Characters as the word of one say. */
    static long word(String characters) {
        long word = 0;
        for (char c : characters.toCharArray()) {
            word = word << 8 | c;
        }
        return word;
    }

    static void sayAll(FaultRules x, String text) {
        for (int at = 0; at < text.length(); at += 8) {
            x.say(word(text.substring(at, Math.min(text.length(), at + 8))));
        }
    }

    /** What rules() answers for a text on a new object, and whether the text stays. */
    static void dueRules(String text, int want) {
        FaultRules x = new FaultRules();
        sayAll(x, text);
        due("rules of '" + text + "'", () -> x.rules(), want);
        due("text left of '" + text + "'", () -> x.trim(0), want >= 0 ? 0 : text.length());
    }

    static FaultRules withRules(String text) {
        FaultRules x = new FaultRules();
        sayAll(x, text);
        due("rules of '" + text + "'", () -> x.rules() > 0, true);
        return x;
    }

    /** A test alone in a rule, read. */
    static FaultRules withTest(String test) {
        return withRules("a: " + test + " for 1 costs 1;");
    }

    static void dueHolds(FaultRules x, String test, int minute, boolean want) {
        due(test + " holds at " + minute, () -> x.holds(0, 0, minute), want);
    }

    static void dueFault(FaultRules x, int k, int rule, int begin, int end, int cost) {
        due("rule of fault " + k, () -> x.fault(k, 0), rule);
        due("beginning of fault " + k, () -> x.fault(k, 1), begin);
        due("end of fault " + k, () -> x.fault(k, 2), end);
        due("cost of fault " + k, () -> x.fault(k, 3), cost);
    }

    static void dueNoRun(FaultRules x) {
        due("fault without a run", () -> x.fault(0, 0), STATE);
        due("money without a run", () -> x.money(), STATE);
        due("causes without a run", () -> x.causes(), STATE);
    }

    /** Of the line of point 0 over point 1. */
    static void dueLine(FaultRules x, int from, int to, long up, long low, long minutes) {
        due("up " + from + " .. " + to, () -> x.line(0, 1, from, to, 0), up);
        due("low " + from + " .. " + to, () -> x.line(0, 1, from, to, 1), low);
        due("minutes " + from + " .. " + to, () -> x.line(0, 1, from, to, 2), minutes);
    }
}
