import java.util.HashMap;
import java.util.Map;

/** Counts wrong answers, and writes programs as text: "APP LAM:3 T_INT VAR:0 LIT:20". */
final class Due {
    private static final int MOST_PRINTED = 40;
    private static final Map<String, Integer> KINDS = new HashMap<>();
    private static int wrong = 0;

    static {
        String[] names = {"T_INT", "T_PAIR", "T_SUM", "T_FUN", "T_BOX", "VAR", "LIT", "ADD", "LAM", "APP",
            "PAIR", "LETPAIR", "INL", "INR", "CASE", "BOX", "LETBOX"};
        for (int k = 0; k < names.length; k++) {
            KINDS.put(names[k], k + 1);
        }
    }

    private Due() {
    }

    static void is(String call, long got, long want) {
        if (got != want) {
            wrong++;
            if (wrong <= MOST_PRINTED) {
                System.out.println(call + " answered " + got + ", due is " + want);
            }
        }
    }

    static int wrongSoFar() {
        return wrong;
    }

    static void finish() {
        if (wrong != 0) {
            System.out.println(wrong + " answers are not as due");
            System.exit(1);
        }
    }

    /** Adds the nodes of the text; every addNode must be taken. */
    static void add(GradedUsage x, String program) {
        for (String word : program.trim().split("\\s+")) {
            int colon = word.indexOf(':');
            int kind = KINDS.get(colon < 0 ? word : word.substring(0, colon));
            int arg = colon < 0 ? 0 : Integer.parseInt(word.substring(colon + 1));
            if (x.addNode(kind, arg) < 0) {
                wrong++;
                System.out.println("addNode refused " + word + " in: " + program);
            }
        }
    }

    static GradedUsage load(String program) {
        return load(64, 32, 64, program);
    }

    static GradedUsage load(int derefLimit, int recordLimit, int frameLimit, String program) {
        GradedUsage x = new GradedUsage(derefLimit, recordLimit, frameLimit);
        add(x, program);
        return x;
    }

    /** The program's status and error node after check. */
    static void checks(String program, int status, int errorNode) {
        GradedUsage x = load(program);
        is("check of " + program, x.check(), status);
        is("status of " + program, x.status(), status);
        is("errorNode of " + program, x.errorNode(), errorNode);
        is("check again of " + program, x.check(), status);
        is("errorNode again of " + program, x.errorNode(), errorNode);
    }

    static GradedUsage accepted(String program) {
        GradedUsage x = load(program);
        is("check of " + program, x.check(), GradedUsage.ST_OK);
        return x;
    }

    static void runResults(String when, GradedUsage x, int outcome, int valueInt, int records, int derefs) {
        is(when + ": outcome", x.outcome(), outcome);
        is(when + ": valueInt", x.valueInt(), valueInt);
        is(when + ": records", x.records(), records);
        is(when + ": derefs", x.derefs(), derefs);
    }

    static void noRunResults(String when, GradedUsage x) {
        runResults(when, x, GradedUsage.OUT_NONE, 0, 0, 0);
        is(when + ": recordNode(0)", x.recordNode(0), -1);
        is(when + ": recordGrade(0)", x.recordGrade(0), -1);
        is(when + ": recordCount(0)", x.recordCount(0), -1);
    }

    /** All that can be read of the object, as text; the indexes go one beyond what can be there. */
    static String allAnswers(GradedUsage x) {
        StringBuilder text = new StringBuilder("status " + x.status() + " at " + x.errorNode());
        for (int node = -1; node <= GradedUsage.MAX_NODES; node++) {
            text.append(", binder ").append(node).append(' ').append(x.binderGrade(node));
            for (int which = -1; which <= 2; which++) {
                text.append(' ').append(x.binderUsage(node, which));
            }
        }
        for (int depth = -1; depth <= 4; depth++) {
            for (int bits = 0; bits < 16; bits++) {
                text.append(", type ").append(depth).append(' ').append(bits).append(' ').append(x.typeAt(depth, bits));
            }
        }
        text.append(", outcome ").append(x.outcome()).append(", value ").append(x.valueInt());
        text.append(", records ").append(x.records()).append(", derefs ").append(x.derefs());
        for (int k = -1; k <= 32; k++) {
            text.append(", record ").append(k).append(' ').append(x.recordNode(k));
            text.append(' ').append(x.recordGrade(k)).append(' ').append(x.recordCount(k));
        }
        return text.toString();
    }

    /** Nothing that can be read has changed since allAnswers answered before. */
    static void unchanged(String when, GradedUsage x, String before) {
        String[] now = allAnswers(x).split(", ");
        String[] then = before.split(", ");
        for (int k = 0; k < then.length; k++) {
            if (!now[k].equals(then[k])) {
                is(when + ": what was '" + then[k] + "' and is '" + now[k] + "': changed", 1, 0);
            }
        }
    }

    static void record(String when, GradedUsage x, int k, int node, int grade, int count) {
        is(when + ": recordNode(" + k + ")", x.recordNode(k), node);
        is(when + ": recordGrade(" + k + ")", x.recordGrade(k), grade);
        is(when + ": recordCount(" + k + ")", x.recordCount(k), count);
    }
}
