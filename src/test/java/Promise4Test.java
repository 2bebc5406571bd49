/** Promise 4: check, with the grades, the node table and the order of its tests. */
public final class Promise4Test {
    private static final int OK = GradedUsage.ST_OK;
    private static final int SYNTAX = GradedUsage.ST_SYNTAX;
    private static final int SCOPE = GradedUsage.ST_SCOPE;
    private static final int TYPE = GradedUsage.ST_TYPE;
    private static final int GRADE = GradedUsage.ST_GRADE;

    public static void main(String[] args) {
        syntax();
        syntaxOfFullPrograms();
        childrenOfEveryKind();
        scope();
        typesOfSimpleTerms();
        typesOfBinders();
        equalTypes();
        gradesOfBinders();
        usageIsAddedAndScaled();
        tablesOfGrades();
        usageIsJoinedOverBranches();
        orderOfTests();
        runResultsAreCleared();
        checkInEveryState();
        largeTypes();
        largeTypesAreCompared();
        manyVariables();
        manyPrograms();
        listsAreMadeAnew();
        Due.finish();
    }

    private static void syntax() {
        GradedUsage empty = new GradedUsage(64, 32, 64);
        Due.is("check of no nodes", empty.check(), SYNTAX);
        Due.is("the fault of no nodes", empty.errorNode(), 0);
        Due.checks("T_INT", SYNTAX, 0);
        Due.checks("T_BOX:1 T_INT", SYNTAX, 0);
        Due.checks("LIT:1 LIT:2", SYNTAX, 1);
        Due.checks("LIT:1 T_INT", SYNTAX, 1);
        Due.checks("ADD LIT:1", SYNTAX, 2);
        Due.checks("ADD LIT:1 LIT:2 LIT:3 LIT:4", SYNTAX, 3);
        Due.checks("LAM:3 LIT:1", SYNTAX, 1);
        Due.checks("LAM:3 T_INT T_INT", SYNTAX, 2);
        Due.checks("LAM:3 T_FUN:1 T_INT LIT:1 LIT:1", SYNTAX, 3);
        Due.checks("LAM:3 T_BOX:1 T_PAIR T_INT T_INT", SYNTAX, 5);
        Due.checks("CASE:3 LIT:1 LIT:2", SYNTAX, 3);
        Due.checks("PAIR PAIR PAIR LIT:1 LIT:2 LIT:3", SYNTAX, 6);
        // Syntax goes before scope and type, wherever the fault is.
        Due.checks("ADD VAR:0 BOX:1", SYNTAX, 3);
        Due.checks("ADD VAR:7 T_INT", SYNTAX, 2);
    }

    private static void syntaxOfFullPrograms() {
        // The nodes end while the list is not empty; CASE makes the longest list, of 65 sorts.
        String[] opening = {"ADD", "APP", "PAIR", "LETPAIR:3", "CASE:3", "BOX:1", "LETBOX"};
        for (String kind : opening) {
            Due.checks((kind + " ").repeat(32), SYNTAX, 32);
            Due.checks((kind + " ").repeat(31) + "T_INT", SYNTAX, 31);
        }
        Due.checks("BOX:1 ".repeat(31) + "LIT:1", OK, -1);
        Due.checks("CASE:3 ".repeat(31) + "LIT:1", SYNTAX, 32);
        Due.checks("LAM:3 T_INT ".repeat(16), SYNTAX, 32);
        Due.checks("INL T_INT ".repeat(16), SYNTAX, 32);
        Due.checks("INR T_INT ".repeat(15) + "LIT:1 LIT:1", SYNTAX, 31);
        Due.checks("LAM:3 " + "T_PAIR ".repeat(31), SYNTAX, 32);
        Due.checks("LAM:3 " + "T_BOX:1 ".repeat(30) + "T_INT", SYNTAX, 32);
        // The list is empty while nodes remain: the first of them, not the last.
        Due.checks("LIT:1 ".repeat(32), SYNTAX, 1);
        Due.checks("LIT:1 " + "T_INT ".repeat(31), SYNTAX, 1);
        Due.checks(Samples.leftSum(14) + "LIT:1 LIT:1 LIT:1", SYNTAX, 29);
        Due.checks(Samples.leftSum(15) + "T_INT", SYNTAX, 31);
    }

    private static void childrenOfEveryKind() {
        String[] whole = {"LIT:1", "ADD LIT:1 LIT:1", "LAM:3 T_INT LIT:1", "APP LAM:3 T_INT LIT:1 LIT:1",
            "PAIR LIT:1 LIT:1", "LETPAIR:3 PAIR LIT:1 LIT:1 LIT:1", "INL T_INT LIT:1", "INR T_INT LIT:1",
            "CASE:3 INL T_INT LIT:1 LIT:1 LIT:1", "BOX:1 LIT:1", "LETBOX BOX:1 LIT:1 LIT:1",
            "LAM:3 T_PAIR T_INT T_INT LIT:1", "LAM:3 T_SUM T_INT T_INT LIT:1", "LAM:3 T_FUN:1 T_INT T_INT LIT:1",
            "LAM:3 T_BOX:1 T_INT LIT:1", "LAM:3 T_INT VAR:0"};
        for (String program : whole) {
            String[] words = program.split(" ");
            Due.checks(program, OK, -1);
            Due.checks(program + " LIT:1", SYNTAX, words.length);
            if (words.length > 1) {
                String shorter = program.substring(0, program.lastIndexOf(' '));
                Due.checks(shorter, SYNTAX, words.length - 1);
            }
        }
    }

    private static void scope() {
        Due.checks("VAR:0", SCOPE, 0);
        Due.checks("VAR:31", SCOPE, 0);
        Due.checks("LAM:3 T_INT VAR:0", OK, -1);
        Due.checks("LAM:3 T_INT VAR:1", SCOPE, 2);
        Due.checks("APP LAM:3 T_INT VAR:0 VAR:0", SCOPE, 4);
        Due.checks("LETPAIR:3 PAIR LIT:1 LIT:2 VAR:1", OK, -1);
        Due.checks("LETPAIR:3 PAIR LIT:1 LIT:2 VAR:2", SCOPE, 4);
        Due.checks("LETPAIR:3 VAR:0 LIT:1", SCOPE, 1);
        Due.checks("CASE:3 INL T_INT LIT:1 VAR:0 VAR:0", OK, -1);
        Due.checks("CASE:3 INL T_INT LIT:1 VAR:1 VAR:0", SCOPE, 4);
        Due.checks("CASE:3 INL T_INT LIT:1 VAR:0 VAR:1", SCOPE, 5);
        Due.checks("CASE:3 VAR:0 VAR:0 VAR:0", SCOPE, 1);
        Due.checks("LETBOX BOX:1 LIT:1 VAR:0", OK, -1);
        Due.checks("LETBOX BOX:1 LIT:1 VAR:1", SCOPE, 3);
        Due.checks("LETBOX BOX:1 VAR:0 VAR:0", SCOPE, 2);
        Due.checks("BOX:1 VAR:0", SCOPE, 1);
        Due.checks("INL T_INT VAR:0", SCOPE, 2);
        // The least index decides, and scope goes before type and grade.
        Due.checks("ADD ADD VAR:3 VAR:0 VAR:1", SCOPE, 2);
        Due.checks("ADD BOX:1 LIT:1 VAR:0", SCOPE, 3);
        Due.checks("ADD LAM:0 T_INT VAR:0 VAR:0", SCOPE, 4);
    }

    private static void typesOfSimpleTerms() {
        Due.checks("ADD LIT:1 LIT:2", OK, -1);
        Due.checks("ADD BOX:1 LIT:1 LIT:2", TYPE, 0);
        Due.checks("ADD LIT:1 PAIR LIT:1 LIT:2", TYPE, 0);
        Due.checks("APP LIT:1 LIT:1", TYPE, 0);
        Due.checks("APP LAM:3 T_INT VAR:0 PAIR LIT:1 LIT:1", TYPE, 0);
        Due.checks("APP LAM:3 T_PAIR T_INT T_INT LIT:1 PAIR LIT:1 LIT:1", OK, -1);
        Due.checks("APP APP LAM:3 T_INT LAM:3 T_BOX:1 T_INT VAR:1 LIT:1 BOX:1 LIT:1", OK, -1);
        Due.checks("APP LAM:3 T_SUM T_INT T_BOX:1 T_INT LIT:0 INL T_BOX:1 T_INT LIT:1", OK, -1);
        Due.checks("APP LAM:3 T_SUM T_INT T_BOX:1 T_INT LIT:0 INR T_BOX:1 T_INT LIT:1", TYPE, 0);
        Due.checks("APP LAM:3 T_SUM T_BOX:1 T_INT T_INT LIT:0 INR T_BOX:1 T_INT LIT:1", OK, -1);
    }

    private static void typesOfBinders() {
        Due.checks("LETPAIR:3 LIT:1 LIT:1", TYPE, 0);
        Due.checks("LETPAIR:3 INL T_INT LIT:1 LIT:1", TYPE, 0);
        Due.checks("CASE:3 PAIR LIT:1 LIT:1 LIT:1 LIT:1", TYPE, 0);
        Due.checks("CASE:3 INL T_INT LIT:1 VAR:0 BOX:1 VAR:0", TYPE, 0);
        Due.checks("CASE:3 INL T_BOX:1 T_INT LIT:1 VAR:0 VAR:0", TYPE, 0);
        Due.checks("CASE:3 INL T_BOX:1 T_INT LIT:1 VAR:0 LETBOX VAR:0 VAR:0", OK, -1);
        Due.checks("CASE:3 INR T_BOX:1 T_INT LIT:1 LETBOX VAR:0 VAR:0 VAR:0", OK, -1);
        Due.checks("LETBOX LIT:1 LIT:1", TYPE, 0);
        Due.checks("LETBOX LAM:1 T_INT VAR:0 LIT:1", TYPE, 0);
        // In a LETPAIR, x (VAR 1) is the left part and y (VAR 0) the right one.
        Due.checks("LETPAIR:3 PAIR LIT:1 BOX:1 LIT:2 ADD VAR:1 LETBOX VAR:0 VAR:0", OK, -1);
        Due.checks("LETPAIR:3 PAIR LIT:1 BOX:1 LIT:2 ADD VAR:0 LIT:1", TYPE, 5);
        Due.checks("LETPAIR:3 PAIR BOX:1 LIT:2 LIT:1 ADD VAR:1 LIT:1", TYPE, 5);
        // Inner variables of a first child do not disturb the outer ones.
        Due.checks("LAM:3 T_INT LETBOX APP LAM:3 T_BOX:1 T_INT VAR:0 BOX:1 VAR:0 ADD VAR:0 VAR:1", OK, -1);
        Due.checks("LAM:3 T_INT CASE:3 INL T_INT LIT:1 LETBOX BOX:1 BOX:1 LIT:1 LETBOX VAR:0 VAR:2 VAR:1", OK, -1);
    }

    private static void equalTypes() {
        String needsFun1 = "APP LAM:3 T_FUN:1 T_INT T_INT LIT:0 ";
        Due.checks(needsFun1 + "LAM:1 T_INT VAR:0", OK, -1);
        Due.checks(needsFun1 + "LAM:3 T_INT VAR:0", OK, -1);
        Due.checks(needsFun1 + "LAM:2 T_INT VAR:0", TYPE, 0);
        Due.checks(needsFun1 + "LAM:3 T_INT LIT:1", TYPE, 0);
        Due.checks(needsFun1 + "LAM:1 T_INT LIT:1", OK, -1);
        Due.checks(needsFun1 + "LAM:1 T_BOX:1 T_INT LIT:1", TYPE, 0);
        Due.checks(needsFun1 + "LAM:1 T_INT BOX:1 VAR:0", TYPE, 0);
        for (int want = 0; want <= 2; want++) {
            for (int have = 0; have <= 2; have++) {
                String program = "APP LAM:3 T_BOX:" + want + " T_INT LIT:0 BOX:" + have + " LIT:1";
                Due.checks(program, want == have ? OK : TYPE, want == have ? -1 : 0);
            }
        }
        Due.checks("APP LAM:3 T_PAIR T_BOX:1 T_INT T_INT LIT:0 PAIR BOX:2 LIT:1 LIT:1", TYPE, 0);
        Due.checks("APP LAM:3 T_PAIR T_INT T_INT LIT:0 INL T_INT LIT:1", TYPE, 0);
        Due.checks("APP LAM:3 T_SUM T_INT T_INT LIT:0 PAIR LIT:1 LIT:1", TYPE, 0);
    }

    private static String useOfX(int times) {
        return times == 0 ? "LIT:1" : times == 1 ? "VAR:0" : "ADD VAR:0 VAR:0";
    }

    private static void gradesOfBinders() {
        for (int grade = 0; grade <= 2; grade++) {
            for (int times = 0; times <= 2; times++) {
                int status = times <= grade ? OK : GRADE;
                int node = times <= grade ? -1 : 0;
                String use = useOfX(times);
                Due.checks("LAM:" + grade + " T_INT " + use, status, node);
                Due.checks("LETPAIR:" + grade + " PAIR LIT:1 LIT:2 " + use, status, node);
                Due.checks("LETPAIR:" + grade + " PAIR LIT:1 LIT:2 " + use.replace('0', '1'), status, node);
                Due.checks("CASE:" + grade + " INL T_INT LIT:1 " + use + " LIT:1", status, node);
                Due.checks("CASE:" + grade + " INL T_INT LIT:1 LIT:1 " + use, status, node);
                Due.checks("LETBOX BOX:" + grade + " LIT:1 " + use, status, node);
            }
        }
        // Each variable of a LETPAIR is used once: the grades are joined, not added.
        Due.checks("LETPAIR:1 PAIR LIT:1 LIT:2 ADD VAR:0 VAR:1", OK, -1);
        Due.checks("CASE:1 INL T_INT LIT:1 VAR:0 VAR:0", OK, -1);
    }

    /** The usage of x in the term e under LAM INFER. */
    private static void uses(String type, String e, int grade) {
        GradedUsage x = Due.accepted("LAM:3 " + type + " " + e);
        Due.is("usage in " + e, x.binderUsage(0, 0), grade);
        Due.is("inferred grade in " + e, x.binderGrade(0), grade);
    }

    private static void usageIsAddedAndScaled() {
        uses("T_INT", "LIT:1", 0);
        uses("T_INT", "VAR:0", 1);
        uses("T_INT", "ADD LIT:1 VAR:0", 1);
        uses("T_INT", "ADD VAR:0 VAR:0", 2);
        uses("T_INT", "ADD ADD VAR:0 VAR:0 VAR:0", 2);
        uses("T_INT", "PAIR VAR:0 VAR:0", 2);
        uses("T_INT", "PAIR VAR:0 LIT:1", 1);
        uses("T_INT", "PAIR LIT:1 VAR:0", 1);
        uses("T_INT", "INL T_INT VAR:0", 1);
        uses("T_INT", "INR T_INT VAR:0", 1);
        uses("T_INT", "INR T_INT ADD VAR:0 VAR:0", 2);
        for (int grade = 0; grade <= 2; grade++) {
            uses("T_INT", "BOX:" + grade + " VAR:0", grade);
            uses("T_INT", "BOX:" + grade + " ADD VAR:0 VAR:0", grade == 0 ? 0 : 2);
            uses("T_INT", "APP LAM:" + grade + " T_INT LIT:1 VAR:0", grade);
            uses("T_INT", "APP LAM:" + grade + " T_INT LIT:1 ADD VAR:0 VAR:0", grade == 0 ? 0 : 2);
            uses("T_FUN:" + grade + " T_INT T_INT", "APP VAR:0 LIT:1", 1);
            uses("T_INT", "LETBOX BOX:" + grade + " VAR:0 LIT:1", grade);
            // A pair or sum is taken apart once even if nothing in it is used.
            uses("T_PAIR T_INT T_INT", "LETPAIR:" + grade + " VAR:0 LIT:1", grade == 2 ? 2 : 1);
            uses("T_SUM T_INT T_INT", "CASE:" + grade + " VAR:0 LIT:1 LIT:1", grade == 2 ? 2 : 1);
        }
        uses("T_PAIR T_INT T_INT", "LETPAIR:3 VAR:0 LIT:1", 1);
        uses("T_PAIR T_INT T_INT", "LETPAIR:3 VAR:0 ADD VAR:0 VAR:1", 1);
        uses("T_PAIR T_INT T_INT", "LETPAIR:3 VAR:0 ADD VAR:0 VAR:0", 2);
        uses("T_PAIR T_INT T_INT", "LETPAIR:3 VAR:0 ADD VAR:1 VAR:1", 2);
        uses("T_SUM T_INT T_INT", "CASE:3 VAR:0 VAR:0 LIT:1", 1);
        uses("T_SUM T_INT T_INT", "CASE:3 VAR:0 LIT:1 ADD VAR:0 VAR:0", 2);
        uses("T_BOX:2 T_INT", "LETBOX VAR:0 ADD VAR:0 VAR:0", 1);
        uses("T_INT", "APP LAM:3 T_INT ADD VAR:1 VAR:0 LIT:1", 1);
        uses("T_INT", "APP LAM:3 T_INT ADD VAR:1 VAR:0 VAR:0", 2);
        uses("T_INT", "LETPAIR:3 PAIR LIT:1 LIT:2 VAR:2", 1);
        uses("T_INT", "LETPAIR:3 PAIR VAR:0 LIT:2 VAR:2", 2);
        uses("T_INT", "LETBOX BOX:1 LIT:1 ADD VAR:0 VAR:1", 1);
        uses("T_INT", "LETBOX BOX:1 VAR:0 ADD VAR:0 VAR:1", 2);
        uses("T_INT", "LAM:3 T_INT VAR:1", 1);
    }

    /** A term of type Int that uses variable i with the grade. */
    private static String useWith(int grade, int i) {
        return "LETBOX BOX:" + grade + " VAR:" + i + " LIT:1";
    }

    private static void tablesOfGrades() {
        int[][] sum = {{0, 1, 2}, {1, 2, 2}, {2, 2, 2}};
        int[][] product = {{0, 0, 0}, {0, 1, 2}, {0, 2, 2}};
        for (int a = 0; a <= 2; a++) {
            for (int b = 0; b <= 2; b++) {
                String useA = useWith(a, 0) + " ";
                String useB = useWith(b, 0);
                uses("T_INT", "ADD " + useA + useB, sum[a][b]);
                uses("T_INT", "PAIR " + useA + useB, sum[a][b]);
                uses("T_INT", "LETBOX BOX:1 " + useA + useWith(b, 1), sum[a][b]);
                uses("T_INT", "LETPAIR:1 PAIR " + useA + "LIT:1 " + useWith(b, 2), sum[a][b]);
                uses("T_INT", "APP LAM:1 T_INT " + useWith(a, 1) + " " + useB, sum[a][b]);
                uses("T_INT", "CASE:1 INL T_INT " + useA + useWith(b, 1) + " LIT:1", sum[a][b]);
                uses("T_INT", "CASE:1 INR T_INT " + useA + "LIT:1 " + useWith(b, 1), sum[a][b]);
                uses("T_INT", "BOX:" + a + " " + useB, product[a][b]);
                uses("T_INT", "APP LAM:" + a + " T_INT LIT:1 " + useB, product[a][b]);
                // A pair or sum is taken apart once at least, hence h, the join with ONE.
                int h = Math.max(a, 1);
                uses("T_INT", "LETPAIR:" + a + " PAIR " + useB + " LIT:1 LIT:1", product[h][b]);
                uses("T_INT", "CASE:" + a + " INL T_INT " + useB + " LIT:1 LIT:1", product[h][b]);
                uses("T_INT", "CASE:3 INL T_INT LIT:1 " + useWith(a, 1) + " " + useWith(b, 1), Math.max(a, b));
            }
        }
    }

    private static void usageIsJoinedOverBranches() {
        String s = "CASE:3 INL T_INT LIT:1 ";
        uses("T_INT", s + "VAR:1 VAR:1", 1);
        uses("T_INT", s + "VAR:1 LIT:1", 1);
        uses("T_INT", s + "LIT:1 VAR:1", 1);
        uses("T_INT", s + "LIT:1 LIT:1", 0);
        uses("T_INT", s + "ADD VAR:1 VAR:1 VAR:1", 2);
        uses("T_INT", s + "VAR:1 ADD VAR:1 VAR:1", 2);
        uses("T_INT", "CASE:3 INL T_INT VAR:0 VAR:1 VAR:0", 2);
        uses("T_INT", "CASE:3 INL T_INT VAR:0 VAR:0 LIT:1", 1);
        uses("T_INT", "CASE:3 INL T_INT VAR:0 ADD VAR:0 VAR:0 LIT:1", 2);
        // Each variable has a grade of its own: here the outer is used once, the middle many times.
        GradedUsage x = Due.accepted("LAM:3 T_INT LAM:3 T_INT LAM:3 T_INT " + s + "ADD VAR:2 VAR:2 VAR:3");
        Due.is("usage of the outer variable", x.binderUsage(0, 0), GradedUsage.ONE);
        Due.is("usage of the middle variable", x.binderUsage(2, 0), GradedUsage.MANY);
        Due.is("usage of the inner variable", x.binderUsage(4, 0), GradedUsage.ZERO);
    }

    private static void orderOfTests() {
        String badType = "ADD LIT:1 BOX:1 LIT:1";
        String badGrade = "APP LAM:0 T_INT VAR:0 LIT:1";
        Due.checks("PAIR " + badType + " " + badGrade, TYPE, 1);
        Due.checks("PAIR " + badGrade + " " + badType, GRADE, 2);
        Due.checks("BOX:1 BOX:1 " + badType, TYPE, 2);
        // Children go before their node ..
        Due.checks("ADD BOX:1 LIT:1 " + badGrade, GRADE, 4);
        Due.checks("APP LIT:1 " + badType, TYPE, 2);
        Due.checks("LAM:0 T_INT ADD VAR:0 BOX:1 LIT:1", TYPE, 2);
        // .. but for the tests marked (first), which stand between the children.
        Due.checks("LETPAIR:3 LIT:1 " + badType, TYPE, 0);
        Due.checks("LETPAIR:3 " + badGrade + " " + badType, GRADE, 2);
        Due.checks("CASE:3 LIT:1 " + badGrade + " LIT:1", TYPE, 0);
        Due.checks("CASE:3 " + badType + " LIT:1 LIT:1", TYPE, 1);
        Due.checks("CASE:3 INL T_INT LIT:1 " + badGrade + " " + badType, GRADE, 5);
        Due.checks("CASE:3 INL T_INT LIT:1 LIT:1 " + badType, TYPE, 5);
        Due.checks("LETBOX LIT:1 " + badGrade, TYPE, 0);
        Due.checks("LETBOX BOX:0 LIT:1 ADD VAR:0 BOX:1 LIT:1", TYPE, 3);
        Due.checks("CASE:3 LIT:1 LIT:1 " + badType, TYPE, 0);
        Due.checks("CASE:3 LIT:1 LIT:1 " + badGrade, TYPE, 0);
        Due.checks("LETPAIR:3 LIT:1 " + badGrade, TYPE, 0);
        Due.checks("LETBOX LIT:1 " + badType, TYPE, 0);
        Due.checks("LETBOX " + badType + " " + badGrade, TYPE, 1);
        Due.checks("LETBOX " + badGrade + " " + badType, GRADE, 2);
        Due.checks("CASE:3 " + badGrade + " " + badType + " " + badType, GRADE, 2);
        // The tests not marked (first) wait for the later children.
        Due.checks("LETPAIR:0 PAIR LIT:1 LIT:1 ADD VAR:0 BOX:1 LIT:1", TYPE, 4);
        Due.checks("CASE:0 INL T_INT LIT:1 VAR:0 " + badType, TYPE, 5);
        Due.checks("CASE:3 INL T_INT LIT:1 BOX:1 LIT:1 " + badType, TYPE, 6);
        Due.checks("CASE:3 INL T_INT LIT:1 BOX:1 LIT:1 " + badGrade, GRADE, 7);
        // Within CASE the branches' types go before the grades.
        Due.checks("CASE:0 INL T_INT LIT:1 VAR:0 BOX:1 LIT:1", TYPE, 0);
        Due.checks("CASE:0 INL T_INT LIT:1 VAR:0 LIT:1", GRADE, 0);
    }

    private static void runResultsAreCleared() {
        GradedUsage x = Due.accepted(Samples.DOUBLE);
        x.run();
        Due.is("check after run", x.check(), OK);
        Due.noRunResults("after check", x);
        Due.is("run after the second check", x.run(), GradedUsage.OUT_INT);
        Due.is("its value", x.valueInt(), 40);
    }

    private static void checkInEveryState() {
        for (States.State state : States.all()) {
            GradedUsage x = state.make();
            GradedUsage twice = state.make();
            int status = x.check();
            boolean checked = state.status() != GradedUsage.ST_UNCHECKED;
            Due.is("check with " + state.name(), status, checked ? state.status() : state.nodes() > 0 ? OK : SYNTAX);
            Due.is("errorNode with " + state.name(), x.errorNode(), status == OK ? -1 : Math.max(state.errorNode(), 0));
            Due.noRunResults("after check with " + state.name(), x);
            twice.check();
            twice.check();
            Due.unchanged("check again with " + state.name(), twice, Due.allAnswers(x));
            // Neither the program nor the limits have changed.
            Due.is("run after check with " + state.name(), x.run(), twice.run());
            if (state.outcome() != GradedUsage.OUT_NONE) {
                Due.unchanged("run after check with " + state.name(), x, Due.allAnswers(state.make()));
            }
        }
    }

    private static void largeTypes() {
        // Each LETBOX doubles the type: written out, the last one has 127 nodes.
        StringBuilder text = new StringBuilder("LETBOX BOX:2 LIT:1 ");
        for (int k = 0; k < 5; k++) {
            text.append("LETBOX BOX:2 PAIR VAR:0 VAR:0 ");
        }
        GradedUsage x = Due.accepted(text + "PAIR VAR:0 VAR:0");
        for (int bits = 0; bits < 64; bits++) {
            Due.is("typeAt(5, " + bits + ") of a large type", x.typeAt(5, bits), GradedUsage.T_PAIR * 4);
            Due.is("typeAt(6, " + bits + ") of a large type", x.typeAt(6, bits), GradedUsage.T_INT * 4);
            Due.is("typeAt(7, " + bits + ") of a large type", x.typeAt(7, bits), -1);
        }
        // Each of these 32 nodes has a type of its own.
        StringBuilder boxes = new StringBuilder();
        for (int k = 0; k < 31; k++) {
            boxes.append("BOX:").append(k % 3).append(' ');
        }
        GradedUsage deep = Due.accepted(boxes + "LIT:1");
        for (int depth = 0; depth <= 30; depth++) {
            Due.is("typeAt(" + depth + ", 0) of boxes", deep.typeAt(depth, 0), GradedUsage.T_BOX * 4 + depth % 3);
        }
        StringBuilder types = new StringBuilder("LAM:3 ");
        for (int k = 0; k < 14; k++) {
            types.append("T_PAIR T_INT ");
        }
        GradedUsage pairs = Due.accepted(types + "T_INT LIT:1");
        Due.is("typeAt(14, 0x3ffe) of nested pairs", pairs.typeAt(14, 0x3ffe), GradedUsage.T_PAIR * 4);
        Due.is("typeAt(15, 0x7ffe) of nested pairs", pairs.typeAt(15, 0x7ffe), GradedUsage.T_INT * 4);
        Due.is("typeAt(16, 0x7ffe) of nested pairs", pairs.typeAt(16, 0x7ffe), -1);
    }

    private static void largeTypesAreCompared() {
        // The branches' type is written out with 63 nodes, and the two branches make it in two ways.
        String branches = "LETBOX BOX:2 PAIR LIT:1 LIT:1 " + "LETBOX BOX:2 PAIR VAR:0 VAR:0 ".repeat(3)
            + "CASE:3 INL T_INT LIT:1 PAIR VAR:1 VAR:1 ";
        Due.checks(branches + "PAIR VAR:1 VAR:1", OK, -1);
        Due.checks(branches + "PAIR VAR:1 PAIR VAR:2 VAR:2", OK, -1);
        Due.checks(branches + "PAIR PAIR VAR:2 VAR:2 VAR:1", OK, -1);
        Due.checks(branches + "PAIR VAR:1 PAIR VAR:2 VAR:3", TYPE, 20);
        Due.checks(branches + "PAIR VAR:1 PAIR VAR:3 VAR:2", TYPE, 20);
        Due.checks(branches + "PAIR PAIR VAR:2 VAR:4 VAR:1", TYPE, 20);
        Due.checks(branches + "PAIR VAR:1 VAR:2", TYPE, 20);
        GradedUsage x = Due.accepted(branches + "PAIR VAR:1 PAIR VAR:2 VAR:2");
        for (int bits = 0; bits < 32; bits++) {
            Due.is("typeAt(4, " + bits + ") of the branches", x.typeAt(4, bits), GradedUsage.T_PAIR * 4);
            Due.is("typeAt(5, " + bits + ") of the branches", x.typeAt(5, bits), GradedUsage.T_INT * 4);
            Due.is("typeAt(6, " + bits + ") of the branches", x.typeAt(6, bits), -1);
        }
        Due.is("run of the branches", x.run(), GradedUsage.OUT_PAIR);
    }

    private static void manyVariables() {
        // 15 LETPAIRs bind 30 variables, the most that 32 nodes can see.
        StringBuilder text = new StringBuilder();
        for (int k = 0; k < 15; k++) {
            text.append("LETPAIR:3 LIT:1 ");
        }
        Due.checks(text + "VAR:29", TYPE, 0);
        Due.checks(text + "VAR:30", SCOPE, 30);
        Due.checks(text + "VAR:31", SCOPE, 30);
        Due.checks(text + "BOX:1 VAR:30", SCOPE, 31);
        // A chain of 13 readings of pairs sees 27 variables.
        StringBuilder chain = new StringBuilder("LAM:3 T_PAIR T_INT T_INT ");
        for (int k = 0; k < 13; k++) {
            chain.append("LETPAIR:3 VAR:").append(2 * k).append(' ');
        }
        GradedUsage x = Due.accepted(chain + "VAR:26");
        Due.is("usage of the outermost variable", x.binderUsage(0, 0), GradedUsage.MANY);
        Due.is("usage of an inner variable", x.binderUsage(4, 0), GradedUsage.ZERO);
    }

    private static void manyPrograms() {
        // Nothing of an earlier program's types may be left: each of these has others.
        GradedUsage x = new GradedUsage(64, 32, 64);
        for (int round = 0; round < 243; round++) {
            x.reset();
            int digits = round;
            for (int k = 0; k < 5; k++) {
                x.addNode(GradedUsage.BOX, digits % 3);
                digits /= 3;
            }
            x.addNode(GradedUsage.LIT, 0);
            Due.is("check of program " + round, x.check(), OK);
            digits = round;
            for (int k = 0; k < 5; k++) {
                Due.is("typeAt(" + k + ", 0) of program " + round, x.typeAt(k, 0), GradedUsage.T_BOX * 4 + digits % 3);
                digits /= 3;
            }
        }
    }

    private static void listsAreMadeAnew() {
        // The same nodes hold other lists in the next program.
        GradedUsage x = Due.accepted("LAM:3 T_INT LAM:3 T_INT PAIR VAR:0 VAR:1");
        String[] next = {"PAIR LIT:1 LIT:1", "PAIR VAR:0 VAR:0", "PAIR VAR:1 LIT:1", "PAIR LIT:1 VAR:0"};
        int[] outer = {0, 0, 1, 0};
        int[] inner = {0, 2, 0, 1};
        for (int k = 0; k < next.length; k++) {
            x.reset();
            Due.add(x, "LAM:3 T_INT LAM:3 T_INT " + next[k]);
            Due.is("check of " + next[k], x.check(), OK);
            Due.is("outer usage in " + next[k], x.binderUsage(0, 0), outer[k]);
            Due.is("inner usage in " + next[k], x.binderUsage(2, 0), inner[k]);
        }
    }
}
