/** Promise 3: addNode, what it refuses, and what a refusal leaves alone. */
public final class Promise3Test {
    private static final int[] ARGS = {Integer.MIN_VALUE, -1000, -2, -1, 0, 1, 2, 3, 4, 5, 30, 31, 32, 33, 64, 1000,
        Integer.MAX_VALUE};

    public static void main(String[] args) {
        kindsAreTested();
        argumentsAreTested();
        theProgramFillsUp();
        aRefusalChangesNothing();
        noStateLetsARefusalChangeIt();
        aNodeTakesTheCheckBack();
        aNodeIsTakenInEveryState();
        argumentsAreStored();
        Due.finish();
    }

    private static void kindsAreTested() {
        int[] kinds = {Integer.MIN_VALUE, -17, -1, 0, 18, 19, 32, 100, Integer.MAX_VALUE};
        GradedUsage x = new GradedUsage(64, 32, 64);
        for (int kind : kinds) {
            for (int arg : ARGS) {
                Due.is("addNode(" + kind + ", " + arg + ")", x.addNode(kind, arg), -1);
            }
        }
        for (int kind = 1; kind <= 17; kind++) {
            Due.is("addNode(" + kind + ", 0)", x.addNode(kind, 0), kind - 1);
        }
    }

    private static void argumentsAreTested() {
        for (int kind = 1; kind <= 17; kind++) {
            for (int arg : ARGS) {
                GradedUsage x = new GradedUsage(64, 32, 64);
                boolean fits = Samples.fits(kind, arg);
                Due.is("addNode(" + kind + ", " + arg + ")", x.addNode(kind, arg), fits ? 0 : -1);
                Due.is("the node after " + kind + ", " + arg, x.addNode(GradedUsage.LIT, 0), fits ? 1 : 0);
            }
        }
    }

    private static void theProgramFillsUp() {
        GradedUsage x = new GradedUsage(64, 32, 64);
        for (int k = 0; k < 32; k++) {
            int kind = 1 + k % 17;
            Due.is("addNode number " + k, x.addNode(kind, 0), k);
        }
        for (int kind = 0; kind <= 18; kind++) {
            Due.is("addNode to a full program", x.addNode(kind, 0), -1);
        }
        GradedUsage full = Due.load(Samples.leftSum(15) + "LIT:9");
        Due.is("the 33rd node", full.addNode(GradedUsage.LIT, 0), -1);
        Due.is("check of 32 nodes with one too many", full.check(), GradedUsage.ST_SYNTAX);
        Due.is("its fault", full.errorNode(), 31);
        GradedUsage whole = Due.accepted("BOX:1 " + Samples.leftSum(15));
        Due.is("run of 32 nodes", whole.run(), GradedUsage.OUT_BOX);
    }

    private static void refuse(GradedUsage x) {
        int[][] bad = {{0, 0}, {18, 0}, {-1, 0}, {GradedUsage.VAR, 32}, {GradedUsage.VAR, -1}, {GradedUsage.BOX, 3},
            {GradedUsage.T_FUN, 3}, {GradedUsage.T_BOX, -1}, {GradedUsage.LAM, 4}, {GradedUsage.LETPAIR, -1},
            {GradedUsage.CASE, 4}};
        for (int[] node : bad) {
            Due.is("addNode(" + node[0] + ", " + node[1] + ")", x.addNode(node[0], node[1]), -1);
        }
    }

    private static void aRefusalChangesNothing() {
        GradedUsage x = Due.accepted(Samples.DOUBLE);
        x.run();
        refuse(x);
        Due.is("status after a refusal", x.status(), GradedUsage.ST_OK);
        Due.is("binderGrade after a refusal", x.binderGrade(1), GradedUsage.MANY);
        Due.is("binderUsage after a refusal", x.binderUsage(1, 0), GradedUsage.MANY);
        Due.is("typeAt after a refusal", x.typeAt(0, 0), 4);
        Due.runResults("after a refusal", x, GradedUsage.OUT_INT, 40, 1, 2);
        Due.record("after a refusal", x, 0, 1, GradedUsage.MANY, 2);
        Due.is("run after a refusal", x.run(), GradedUsage.OUT_INT);
        Due.is("check after a refusal", x.check(), GradedUsage.ST_OK);

        GradedUsage faulty = Due.load("LAM:0 T_INT VAR:0");
        faulty.check();
        refuse(faulty);
        Due.is("a faulty status after a refusal", faulty.status(), GradedUsage.ST_GRADE);
        Due.is("the fault after a refusal", faulty.errorNode(), 0);

        GradedUsage full = Due.accepted("BOX:1 " + Samples.leftSum(15));
        full.run();
        Due.is("addNode to a full program", full.addNode(GradedUsage.LIT, 0), -1);
        refuse(full);
        Due.is("a full program's status", full.status(), GradedUsage.ST_OK);
        Due.is("a full program's outcome", full.outcome(), GradedUsage.OUT_BOX);
    }

    private static void noStateLetsARefusalChangeIt() {
        for (States.State state : States.all()) {
            GradedUsage x = state.make();
            String before = Due.allAnswers(x);
            refuse(x);
            Due.unchanged("a refused node with " + state.name(), x, before);
            // 1 fits every kind, and no full program here ends with a node of that argument.
            for (int kind = 1; kind <= 17 && state.full(); kind++) {
                Due.is("addNode(" + kind + ", 1) with " + state.name(), x.addNode(kind, 1), -1);
                Due.unchanged("a 33rd node of kind " + kind + " with " + state.name(), x, before);
            }
            sameProgram(state, x);
        }
    }

    /** The nodes, and no others, are still there: the program checks and runs as a fresh one does. */
    private static void sameProgram(States.State state, GradedUsage x) {
        GradedUsage fresh = state.make();
        Due.is("check after refusals with " + state.name(), x.check(), fresh.check());
        Due.is("run after refusals with " + state.name(), x.run(), fresh.run());
        Due.unchanged("the program after refusals with " + state.name(), x, Due.allAnswers(fresh));
        Due.is("the next node with " + state.name(), x.addNode(GradedUsage.LIT, 0), state.full() ? -1 : state.nodes());
    }

    private static void aNodeTakesTheCheckBack() {
        GradedUsage x = Due.accepted(Samples.DOUBLE);
        x.run();
        Due.is("a node more", x.addNode(GradedUsage.LIT, 5), 7);
        Due.is("status after a node more", x.status(), GradedUsage.ST_UNCHECKED);
        Due.is("errorNode after a node more", x.errorNode(), -1);
        Due.noRunResults("after a node more", x);
        Due.is("binderGrade after a node more", x.binderGrade(1), -1);
        Due.is("binderUsage after a node more", x.binderUsage(1, 0), -1);
        Due.is("typeAt after a node more", x.typeAt(0, 0), -1);
        Due.is("run after a node more", x.run(), GradedUsage.OUT_NONE);
        Due.is("check after a node more", x.check(), GradedUsage.ST_SYNTAX);
        Due.is("its fault", x.errorNode(), 7);
        Due.is("another node", x.addNode(GradedUsage.LIT, 5), 8);
        Due.is("errorNode after another node", x.errorNode(), -1);
    }

    private static void aNodeIsTakenInEveryState() {
        for (States.State state : States.all()) {
            if (state.full()) {
                continue;
            }
            GradedUsage x = state.make();
            // A type node after a whole program is no valid program: adding does not look.
            Due.is("a node with " + state.name(), x.addNode(GradedUsage.T_INT, 77), state.nodes());
            Due.is("status after a node with " + state.name(), x.status(), GradedUsage.ST_UNCHECKED);
            Due.is("errorNode after a node with " + state.name(), x.errorNode(), -1);
            Due.noRunResults("after a node with " + state.name(), x);
            for (int node = -1; node <= 32; node++) {
                Due.is("binderGrade after a node with " + state.name(), x.binderGrade(node), -1);
                Due.is("binderUsage after a node with " + state.name(), x.binderUsage(node, 0), -1);
            }
            Due.is("typeAt after a node with " + state.name(), x.typeAt(0, 0), -1);
        }
    }

    private static void argumentsAreStored() {
        int[] numbers = {0, 1, -1, 20, Integer.MIN_VALUE, Integer.MAX_VALUE};
        for (int number : numbers) {
            GradedUsage x = Due.accepted("LIT:" + number);
            x.run();
            Due.is("value of LIT " + number, x.valueInt(), number);
        }
        // An ignored argument is stored as 0: the types below would differ otherwise.
        GradedUsage x = new GradedUsage(64, 32, 64);
        int[][] nodes = {{GradedUsage.APP, 9}, {GradedUsage.LAM, 3}, {GradedUsage.T_PAIR, 2}, {GradedUsage.T_SUM, -7},
            {GradedUsage.T_INT, 3}, {GradedUsage.T_INT, 1}, {GradedUsage.T_INT, 2}, {GradedUsage.VAR, 0},
            {GradedUsage.PAIR, 77}, {GradedUsage.INL, 5}, {GradedUsage.T_INT, 0}, {GradedUsage.LIT, 1},
            {GradedUsage.LIT, 2}};
        for (int[] node : nodes) {
            x.addNode(node[0], node[1]);
        }
        Due.is("check with ignored arguments", x.check(), GradedUsage.ST_OK);
        Due.is("root of the type", x.typeAt(0, 0), GradedUsage.T_PAIR * 4);
        Due.is("left of the type", x.typeAt(1, 0), GradedUsage.T_SUM * 4);
        Due.is("right of the type", x.typeAt(1, 1), GradedUsage.T_INT * 4);
        Due.is("left of the sum", x.typeAt(2, 0), GradedUsage.T_INT * 4);
    }
}
