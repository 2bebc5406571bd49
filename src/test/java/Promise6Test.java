/** Promise 6: binderGrade and binderUsage. */
public final class Promise6Test {
    private static final int[] WRONG_NODES = {Integer.MIN_VALUE, -2, -1, 32, 33, 64, Integer.MAX_VALUE};
    private static final int[] WRONG_WHICH = {Integer.MIN_VALUE, -2, -1, 2, 3, 32, Integer.MAX_VALUE};

    public static void main(String[] args) {
        gradesOfEachBinder();
        onlyBindersAnswer();
        onlyAcceptedProgramsAnswer();
        nodesBeyondTheProgram();
        theLastNodes();
        onlyTheStatusDecides();
        Due.finish();
    }

    /** The root's binder grade and usages; usageY is -1 for a binder of one variable. */
    private static void root(String program, int grade, int usageX, int usageY) {
        GradedUsage x = Due.accepted(program);
        Due.is("binderGrade(0) of " + program, x.binderGrade(0), grade);
        Due.is("binderUsage(0, 0) of " + program, x.binderUsage(0, 0), usageX);
        Due.is("binderUsage(0, 1) of " + program, x.binderUsage(0, 1), usageY);
        for (int which : WRONG_WHICH) {
            Due.is("binderUsage(0, " + which + ") of " + program, x.binderUsage(0, which), -1);
        }
        Due.is("binderGrade(0) again", x.binderGrade(0), grade);
        Due.is("status after reading", x.status(), GradedUsage.ST_OK);
    }

    private static void gradesOfEachBinder() {
        root("LAM:3 T_INT LIT:1", 0, 0, -1);
        root("LAM:3 T_INT VAR:0", 1, 1, -1);
        root("LAM:3 T_INT ADD VAR:0 VAR:0", 2, 2, -1);
        root("LAM:2 T_INT LIT:1", 2, 0, -1);
        root("LAM:1 T_INT LIT:1", 1, 0, -1);
        root("LAM:0 T_INT LIT:1", 0, 0, -1);
        String pair = "PAIR LIT:1 LIT:2 ";
        root("LETPAIR:3 " + pair + "LIT:1", 0, 0, 0);
        root("LETPAIR:3 " + pair + "VAR:1", 1, 1, 0);
        root("LETPAIR:3 " + pair + "VAR:0", 1, 0, 1);
        root("LETPAIR:3 " + pair + "ADD VAR:0 ADD VAR:1 VAR:1", 2, 2, 1);
        root("LETPAIR:3 " + pair + "ADD VAR:0 ADD VAR:0 VAR:1", 2, 1, 2);
        root("LETPAIR:2 " + pair + "VAR:1", 2, 1, 0);
        root("LETPAIR:1 " + pair + "ADD VAR:0 VAR:1", 1, 1, 1);
        root("LETPAIR:0 " + pair + "LIT:1", 0, 0, 0);
        String sum = "INL T_INT LIT:1 ";
        root("CASE:3 " + sum + "LIT:1 LIT:1", 0, 0, 0);
        root("CASE:3 " + sum + "VAR:0 LIT:1", 1, 1, 0);
        root("CASE:3 " + sum + "LIT:1 VAR:0", 1, 0, 1);
        root("CASE:3 " + sum + "ADD VAR:0 VAR:0 VAR:0", 2, 2, 1);
        root("CASE:3 " + sum + "VAR:0 ADD VAR:0 VAR:0", 2, 1, 2);
        root("CASE:2 " + sum + "LIT:1 VAR:0", 2, 0, 1);
        root("CASE:1 " + sum + "VAR:0 VAR:0", 1, 1, 1);
        for (int grade = 0; grade <= 2; grade++) {
            root("LETBOX BOX:" + grade + " LIT:1 LIT:1", grade, 0, -1);
        }
        root("LETBOX BOX:1 LIT:1 VAR:0", 1, 1, -1);
        root("LETBOX BOX:2 LIT:1 VAR:0", 2, 1, -1);
        root("LETBOX BOX:2 LIT:1 ADD VAR:0 VAR:0", 2, 2, -1);
    }

    private static void onlyBindersAnswer() {
        String[] others = {"LIT:1", "ADD LIT:1 LIT:2", "PAIR LIT:1 LIT:2", "INL T_INT LIT:1", "INR T_INT LIT:1",
            "BOX:2 LIT:1"};
        for (String program : others) {
            root(program, -1, -1, -1);
        }
        GradedUsage x = Due.accepted("APP LAM:3 T_FUN:1 T_INT T_BOX:2 T_INT LETBOX APP VAR:0 LIT:1 VAR:0"
            + " LAM:1 T_INT BOX:2 LIT:7");
        for (int node = 0; node < 16; node++) {
            boolean binder = node == 1 || node == 6 || node == 11;
            Due.is("binderGrade(" + node + ") is there", x.binderGrade(node) >= 0 ? 1 : 0, binder ? 1 : 0);
            Due.is("binderUsage(" + node + ", 0) is there", x.binderUsage(node, 0) >= 0 ? 1 : 0, binder ? 1 : 0);
            Due.is("binderUsage(" + node + ", 1)", x.binderUsage(node, 1), -1);
        }
        Due.is("grade of the outer LAM", x.binderGrade(1), GradedUsage.ONE);
        Due.is("grade of the LETBOX", x.binderGrade(6), GradedUsage.MANY);
        Due.is("usage of the LETBOX", x.binderUsage(6, 0), GradedUsage.ONE);
        Due.is("grade of the inner LAM", x.binderGrade(11), GradedUsage.ONE);
        Due.is("usage of the inner LAM", x.binderUsage(11, 0), GradedUsage.ZERO);
    }

    private static void onlyAcceptedProgramsAnswer() {
        GradedUsage x = Due.load("LAM:3 T_INT VAR:0");
        silent("an unchecked program", x);
        x.check();
        Due.is("binderGrade once checked", x.binderGrade(0), GradedUsage.ONE);
        x.addNode(GradedUsage.LIT, 1);
        silent("a program with a node more", x);
        x.check();
        silent("a program with a syntax fault", x);
        x.reset();
        silent("a program after reset", x);
        String[] refused = {"LAM:3 T_INT VAR:1", "LAM:3 T_INT ADD VAR:0 BOX:1 LIT:1", "LAM:0 T_INT VAR:0"};
        for (String program : refused) {
            GradedUsage y = Due.load(program);
            y.check();
            silent("the refused program " + program, y);
        }
    }

    private static void silent(String what, GradedUsage x) {
        Due.is("binderGrade(0) of " + what, x.binderGrade(0), -1);
        Due.is("binderUsage(0, 0) of " + what, x.binderUsage(0, 0), -1);
    }

    private static void nodesBeyondTheProgram() {
        // A longer program stood here before: its binders must not show.
        GradedUsage x = Due.accepted("ADD ADD LIT:1 LIT:2 LETBOX BOX:2 LIT:1 VAR:0");
        Due.is("binderGrade(4) of the longer program", x.binderGrade(4), GradedUsage.MANY);
        x.reset();
        Due.add(x, "LETBOX BOX:2 LIT:1 VAR:0");
        x.check();
        for (int node = 4; node < 40; node++) {
            Due.is("binderGrade(" + node + ")", x.binderGrade(node), -1);
            Due.is("binderUsage(" + node + ", 0)", x.binderUsage(node, 0), -1);
        }
        for (int node : WRONG_NODES) {
            Due.is("binderGrade(" + node + ")", x.binderGrade(node), -1);
            Due.is("binderUsage(" + node + ", 0)", x.binderUsage(node, 0), -1);
            Due.is("binderUsage(" + node + ", 1)", x.binderUsage(node, 1), -1);
        }
    }

    private static void theLastNodes() {
        // A binder needs two nodes more, so node 29 is the last that can be one.
        String[] binders = {"LAM:3 T_INT VAR:0", "LETBOX BOX:2 LIT:1 VAR:0", "LETPAIR:3 PAIR LIT:1 LIT:1 VAR:0",
            "CASE:3 INR T_INT LIT:1 VAR:0 LIT:1"};
        int[] grades = {GradedUsage.ONE, GradedUsage.MANY, GradedUsage.ONE, GradedUsage.ONE};
        for (int k = 0; k < binders.length; k++) {
            int binder = 32 - binders[k].split(" ").length;
            GradedUsage x = Due.accepted("BOX:1 ".repeat(binder) + binders[k]);
            for (int node = 0; node <= 33; node++) {
                Due.is("binderGrade(" + node + ") of 32 nodes", x.binderGrade(node), node == binder ? grades[k] : -1);
                Due.is("binderUsage(" + node + ", 0) is there", x.binderUsage(node, 0) >= 0 ? 1 : 0,
                    node == binder ? 1 : 0);
            }
        }
    }

    private static void onlyTheStatusDecides() {
        for (States.State state : States.all()) {
            GradedUsage x = state.make();
            String before = Due.allAnswers(x);
            int found = 0;
            for (int node = 0; node < 32; node++) {
                found += x.binderGrade(node) >= 0 && x.binderUsage(node, 0) >= 0 ? 1 : 0;
            }
            Due.is("binders are told with " + state.name(), found > 0 ? 1 : 0, state.accepted() ? 1 : 0);
            Due.unchanged("binderGrade and binderUsage with " + state.name(), x, before);
        }
    }
}
