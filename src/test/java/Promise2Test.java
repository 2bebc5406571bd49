/** Promise 2: reset in every state. */
public final class Promise2Test {
    public static void main(String[] args) {
        for (States.State state : States.all()) {
            resetOf(state.name(), state.make());
        }
        GradedUsage halted = Due.load(1, 32, 64, Samples.DOUBLE);
        halted.check();
        Due.is("a run that meets its limit", halted.run(), GradedUsage.OUT_DEREF_LIMIT);
        resetWithLimits(halted);
        resetOfAFullProgram();
        Due.finish();
    }

    private static void resetOf(String what, GradedUsage x) {
        x.reset();
        Due.is("status after reset of " + what, x.status(), GradedUsage.ST_UNCHECKED);
        Due.is("errorNode after reset of " + what, x.errorNode(), -1);
        Due.noRunResults("after reset of " + what, x);
        Due.is("binderGrade after reset of " + what, x.binderGrade(1), -1);
        Due.is("binderUsage after reset of " + what, x.binderUsage(1, 0), -1);
        Due.is("typeAt after reset of " + what, x.typeAt(0, 0), -1);
        Due.is("run after reset of " + what, x.run(), GradedUsage.OUT_NONE);
        Due.is("check after reset of " + what, x.check(), GradedUsage.ST_SYNTAX);
        Due.is("the empty program's fault after reset of " + what, x.errorNode(), 0);
        x.reset();
        x.reset();
        Due.is("the first index after reset of " + what, x.addNode(GradedUsage.LIT, 8), 0);
        Due.is("check of the next program after " + what, x.check(), GradedUsage.ST_OK);
        Due.is("run of the next program after " + what, x.run(), GradedUsage.OUT_INT);
        Due.is("value of the next program after " + what, x.valueInt(), 8);
    }

    private static void resetWithLimits(GradedUsage x) {
        resetOf("a halted run", x);
        x.reset();
        Due.add(x, Samples.DOUBLE);
        x.check();
        Due.is("the limit after reset", x.run(), GradedUsage.OUT_DEREF_LIMIT);
    }

    private static void resetOfAFullProgram() {
        GradedUsage x = new GradedUsage(64, 32, 64);
        for (int round = 0; round < 3; round++) {
            for (int k = 0; k < GradedUsage.MAX_NODES; k++) {
                Due.is("a node after " + round + " resets", x.addNode(GradedUsage.LIT, k), k);
            }
            Due.is("a node too many", x.addNode(GradedUsage.LIT, 0), -1);
            x.reset();
        }
        resetOf("a full program", x);
    }
}
