/** Promise 5: status and errorNode. */
public final class Promise5Test {
    public static void main(String[] args) {
        followTheCalls();
        syntaxFaultsBeyondTheLastNode();
        refusedNodesDoNotSetThem();
        readingChangesNothing();
        Due.finish();
    }

    private static void stands(String when, GradedUsage x, int status, int errorNode) {
        for (int round = 0; round < 2; round++) {
            Due.is("status " + when, x.status(), status);
            Due.is("errorNode " + when, x.errorNode(), errorNode);
        }
    }

    private static void followTheCalls() {
        GradedUsage x = new GradedUsage(64, 32, 64);
        stands("at first", x, GradedUsage.ST_UNCHECKED, -1);
        x.check();
        stands("of the empty program", x, GradedUsage.ST_SYNTAX, 0);
        x.addNode(18, 0);
        stands("after a refused node", x, GradedUsage.ST_SYNTAX, 0);
        Due.add(x, "ADD");
        stands("after a node", x, GradedUsage.ST_UNCHECKED, -1);
        x.check();
        stands("of ADD alone", x, GradedUsage.ST_SYNTAX, 1);
        Due.add(x, "LIT:1 BOX:1");
        stands("after more nodes", x, GradedUsage.ST_UNCHECKED, -1);
        x.run();
        stands("after a refused run", x, GradedUsage.ST_UNCHECKED, -1);
        Due.add(x, "VAR:4");
        x.check();
        stands("with an unbound variable", x, GradedUsage.ST_SCOPE, 3);
        x.run();
        stands("after a run that is refused", x, GradedUsage.ST_SCOPE, 3);
        x.reset();
        stands("after reset", x, GradedUsage.ST_UNCHECKED, -1);
        Due.add(x, "ADD LIT:1 BOX:1 LIT:1");
        x.check();
        stands("with a type fault", x, GradedUsage.ST_TYPE, 0);
        x.addNode(GradedUsage.VAR, 32);
        stands("after another refused node", x, GradedUsage.ST_TYPE, 0);
        x.reset();
        Due.add(x, "BOX:1 LAM:0 T_INT VAR:0");
        x.check();
        stands("with a grade fault", x, GradedUsage.ST_GRADE, 1);
        x.reset();
        Due.add(x, Samples.DOUBLE);
        x.check();
        stands("of an accepted program", x, GradedUsage.ST_OK, -1);
        x.run();
        stands("after a run", x, GradedUsage.ST_OK, -1);
        x.reset();
        stands("after the last reset", x, GradedUsage.ST_UNCHECKED, -1);
    }

    private static void syntaxFaultsBeyondTheLastNode() {
        GradedUsage x = new GradedUsage(64, 32, 64);
        for (int nodes = 0; nodes <= 32; nodes++) {
            x.check();
            stands("with " + nodes + " nodes that lack one", x, GradedUsage.ST_SYNTAX, nodes);
            x.addNode(GradedUsage.BOX, 1);
        }
    }

    private static void refusedNodesDoNotSetThem() {
        for (States.State state : States.all()) {
            GradedUsage x = state.make();
            x.addNode(0, 0);
            x.addNode(GradedUsage.BOX, GradedUsage.INFER);
            if (state.full()) {
                x.addNode(GradedUsage.LIT, 0);
            }
            stands("after refused nodes with " + state.name(), x, state.status(), state.errorNode());
        }
    }

    private static void readingChangesNothing() {
        GradedUsage x = Due.accepted(Samples.DOUBLE);
        x.run();
        stands("after a run", x, GradedUsage.ST_OK, -1);
        Due.runResults("after reading the status", x, GradedUsage.OUT_INT, 40, 1, 2);
        Due.is("binderGrade after reading the status", x.binderGrade(1), GradedUsage.MANY);
        for (States.State state : States.all()) {
            GradedUsage y = state.make();
            String before = Due.allAnswers(y);
            stands("with " + state.name(), y, state.status(), state.errorNode());
            Due.unchanged("status and errorNode with " + state.name(), y, before);
        }
    }
}
