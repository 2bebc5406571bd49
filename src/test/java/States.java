import java.util.ArrayList;
import java.util.List;

/** The states that a call can meet: every status and every outcome, of a short program and of a full one. */
final class States {
    /** A program, its limits, and how far it is taken: status tells whether it is checked, outcome whether it ran. */
    record State(String name, int[] limits, String program, int status, int errorNode, int outcome) {
        GradedUsage make() {
            GradedUsage x = new GradedUsage(limits[0], limits[1], limits[2]);
            if (nodes() > 0) {
                Due.add(x, program);
            }
            if (status != GradedUsage.ST_UNCHECKED) {
                Due.is("check of " + name, x.check(), status);
            }
            if (outcome != GradedUsage.OUT_NONE) {
                Due.is("run of " + name, x.run(), outcome);
            }
            Due.is("status of " + name, x.status(), status);
            Due.is("errorNode of " + name, x.errorNode(), errorNode);
            Due.is("outcome of " + name, x.outcome(), outcome);
            return x;
        }

        int nodes() {
            return program.isBlank() ? 0 : program.trim().split("\\s+").length;
        }

        boolean full() {
            return nodes() == GradedUsage.MAX_NODES;
        }

        boolean accepted() {
            return status == GradedUsage.ST_OK;
        }
    }

    private static final int[] WIDE = {64, 32, 64};
    private static final int[] NARROW = {1, 1, 1};

    private States() {
    }

    static List<State> all() {
        List<State> states = new ArrayList<>();
        unchecked(states, "nothing", "");
        unchecked(states, "a program", Samples.DOUBLE);
        unchecked(states, "a full program", Samples.FRAMES_48);
        faulty(states, "no nodes", "", GradedUsage.ST_SYNTAX, 0);
        faulty(states, "a node too few", "APP LAM:3 T_INT VAR:0", GradedUsage.ST_SYNTAX, 4);
        faulty(states, "a node too many", "LAM:3 T_INT VAR:0 LIT:1", GradedUsage.ST_SYNTAX, 3);
        faulty(states, "an unbound variable", "LAM:3 T_INT VAR:1", GradedUsage.ST_SCOPE, 2);
        faulty(states, "a wrong type", "LAM:3 T_INT APP VAR:0 LIT:1", GradedUsage.ST_TYPE, 2);
        faulty(states, "a wrong grade", "BOX:1 LAM:0 T_INT VAR:0", GradedUsage.ST_GRADE, 1);
        faulty(states, "32 nodes, too few", "ADD ".repeat(32), GradedUsage.ST_SYNTAX, 32);
        faulty(states, "32 nodes, one unbound", "BOX:1 ".repeat(31) + "VAR:0", GradedUsage.ST_SCOPE, 31);
        faulty(states, "32 nodes, wrong type", "BOX:1 ".repeat(29) + "APP LIT:1 LIT:1", GradedUsage.ST_TYPE, 29);
        faulty(states, "32 nodes, wrong grade", "BOX:1 ".repeat(29) + "LAM:0 T_INT VAR:0", GradedUsage.ST_GRADE, 29);
        accepted(states, "an accepted program", WIDE, Samples.DOUBLE, GradedUsage.OUT_NONE);
        accepted(states, "a full accepted program", WIDE, Samples.FRAMES_48, GradedUsage.OUT_NONE);
        accepted(states, "a number", WIDE, Samples.DOUBLE, GradedUsage.OUT_INT);
        accepted(states, "a function", WIDE, "LETBOX BOX:2 LAM:3 T_INT LIT:1 VAR:0", GradedUsage.OUT_FUN);
        accepted(states, "a pair", WIDE, "LETBOX BOX:2 LIT:1 PAIR VAR:0 VAR:0", GradedUsage.OUT_PAIR);
        accepted(states, "a left one", WIDE, "LETBOX BOX:1 LIT:1 INL T_INT VAR:0", GradedUsage.OUT_INL);
        accepted(states, "a right one", WIDE, "LETBOX BOX:1 LIT:1 INR T_INT VAR:0", GradedUsage.OUT_INR);
        accepted(states, "a box", WIDE, "LETBOX BOX:0 LIT:1 BOX:0 VAR:0", GradedUsage.OUT_BOX);
        accepted(states, "too many dereferences", NARROW, Samples.DOUBLE, GradedUsage.OUT_DEREF_LIMIT);
        accepted(states, "too many records", NARROW, "LETPAIR:3 PAIR LIT:1 LIT:2 VAR:0", GradedUsage.OUT_RECORD_LIMIT);
        accepted(states, "too many frames", NARROW, "LETBOX BOX:1 LIT:1 ADD VAR:0 ADD LIT:1 LIT:2",
            GradedUsage.OUT_FRAME_LIMIT);
        accepted(states, "a full program that ran", WIDE, Samples.FRAMES_48, GradedUsage.OUT_INT);
        accepted(states, "a full program with too many frames", new int[] {64, 32, 47}, Samples.FRAMES_48,
            GradedUsage.OUT_FRAME_LIMIT);
        return states;
    }

    private static void unchecked(List<State> states, String name, String program) {
        states.add(new State(name + " (unchecked)", WIDE, program, GradedUsage.ST_UNCHECKED, -1, GradedUsage.OUT_NONE));
    }

    private static void faulty(List<State> states, String name, String program, int status, int errorNode) {
        states.add(new State(name + " (refused)", WIDE, program, status, errorNode, GradedUsage.OUT_NONE));
    }

    private static void accepted(List<State> states, String name, int[] limits, String program, int outcome) {
        states.add(new State(name + " (outcome " + outcome + ")", limits, program, GradedUsage.ST_OK, -1, outcome));
    }
}
