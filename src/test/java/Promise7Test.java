/** Promise 7: typeAt. */
public final class Promise7Test {
    private static final int INT = GradedUsage.T_INT * 4;

    public static void main(String[] args) {
        rootsOfEachKind();
        stepsIntoTypes();
        depthIsTested();
        onlyAcceptedProgramsAnswer();
        otherBitsDoNotMatter();
        theLastStep();
        onlyTheStatusDecides();
        Due.finish();
    }

    private static void at(String program, int depth, int bits, int want) {
        GradedUsage x = Due.accepted(program);
        for (int round = 0; round < 2; round++) {
            Due.is("typeAt(" + depth + ", " + bits + ") of " + program, x.typeAt(depth, bits), want);
        }
        Due.is("status after typeAt", x.status(), GradedUsage.ST_OK);
    }

    private static void rootsOfEachKind() {
        at("LIT:1", 0, 0, 4);
        at("PAIR LIT:1 LIT:1", 0, 0, 8);
        at("INL T_INT LIT:1", 0, 0, 12);
        at("INR T_INT LIT:1", 0, 0, 12);
        for (int grade = 0; grade <= 2; grade++) {
            at("LAM:" + grade + " T_INT LIT:1", 0, 0, 16 + grade);
            at("BOX:" + grade + " LIT:1", 0, 0, 20 + grade);
        }
        at("LAM:3 T_INT LIT:1", 0, 0, 16);
        at("LAM:3 T_INT VAR:0", 0, 0, 17);
        at("LAM:3 T_INT ADD VAR:0 VAR:0", 0, 0, 18);
    }

    private static void stepsIntoTypes() {
        at("LIT:1", 1, 0, -1);
        at("LIT:1", 1, 1, -1);
        String pair = "PAIR LIT:1 BOX:2 LIT:1";
        at(pair, 1, 0, INT);
        at(pair, 1, 1, 22);
        at(pair, 2, 1, INT);
        at(pair, 2, 3, -1);
        at(pair, 2, 0, -1);
        at(pair, 3, 1, -1);
        at("INL T_BOX:0 T_INT LIT:1", 1, 0, INT);
        at("INL T_BOX:0 T_INT LIT:1", 1, 1, 20);
        at("INR T_BOX:0 T_INT LIT:1", 1, 0, 20);
        at("INR T_BOX:0 T_INT LIT:1", 1, 1, INT);
        at("LAM:3 T_BOX:1 T_INT LIT:1", 1, 0, 21);
        at("LAM:3 T_BOX:1 T_INT LIT:1", 1, 1, INT);
        at("LAM:3 T_BOX:1 T_PAIR T_INT T_INT LIT:1", 2, 0, 8);
        at("LAM:3 T_BOX:1 T_PAIR T_INT T_INT LIT:1", 2, 2, -1);
        at("LAM:3 T_FUN:0 T_SUM T_INT T_INT T_BOX:2 T_INT LIT:1", 1, 0, 16);
        at("LAM:3 T_FUN:0 T_SUM T_INT T_INT T_BOX:2 T_INT LIT:1", 2, 0, 12);
        at("LAM:3 T_FUN:0 T_SUM T_INT T_INT T_BOX:2 T_INT LIT:1", 2, 2, 22);
        at("BOX:1 BOX:2 LIT:1", 1, 0, 22);
        at("BOX:1 BOX:2 LIT:1", 1, 1, -1);
        at("BOX:1 BOX:2 LIT:1", 2, 0, INT);
        at("BOX:1 BOX:2 LIT:1", 2, 2, -1);
        // Bit 0 is the first step: right then left, left then right.
        String mixed = "PAIR PAIR LIT:1 BOX:0 LIT:1 PAIR BOX:1 LIT:1 BOX:2 LIT:1";
        at(mixed, 2, 0, INT);
        at(mixed, 2, 1, 21);
        at(mixed, 2, 2, 20);
        at(mixed, 2, 3, 22);
        // The types of terms that take types apart.
        at("APP LAM:3 T_BOX:2 T_INT PAIR VAR:0 LIT:1 BOX:2 LIT:1", 1, 0, 22);
        at("LETPAIR:3 PAIR BOX:1 LIT:1 LIT:2 VAR:1", 0, 0, 21);
        at("CASE:3 INL T_INT BOX:0 LIT:1 VAR:0 BOX:0 VAR:0", 0, 0, 20);
        at("LETBOX BOX:1 BOX:2 LIT:1 VAR:0", 0, 0, 22);
    }

    private static void depthIsTested() {
        int[] wrong = {Integer.MIN_VALUE, -31, -1, 31, 32, 33, 64, Integer.MAX_VALUE};
        StringBuilder boxes = new StringBuilder();
        for (int k = 0; k < 31; k++) {
            boxes.append("BOX:").append(k % 3).append(' ');
        }
        GradedUsage x = Due.accepted(boxes + "LIT:1");
        for (int depth : wrong) {
            Due.is("typeAt(" + depth + ", 0)", x.typeAt(depth, 0), -1);
        }
        Due.is("typeAt(30, 0)", x.typeAt(30, 0), 20);
        Due.is("typeAt(30, 1 << 29)", x.typeAt(30, 1 << 29), -1);
        Due.is("typeAt(30, 1 << 30)", x.typeAt(30, 1 << 30), 20);
        Due.is("typeAt(29, 1 << 29)", x.typeAt(29, 1 << 29), 22);
    }

    private static void onlyAcceptedProgramsAnswer() {
        GradedUsage x = new GradedUsage(64, 32, 64);
        Due.is("typeAt of no program", x.typeAt(0, 0), -1);
        Due.add(x, "LIT:1");
        Due.is("typeAt of an unchecked program", x.typeAt(0, 0), -1);
        x.check();
        Due.is("typeAt of a checked program", x.typeAt(0, 0), 4);
        x.run();
        Due.is("typeAt after a run", x.typeAt(0, 0), 4);
        x.reset();
        Due.is("typeAt after reset", x.typeAt(0, 0), -1);
        String[] refused = {"LIT:1 LIT:1", "VAR:0", "ADD LIT:1 BOX:1 LIT:1", "LAM:0 T_INT VAR:0"};
        for (String program : refused) {
            GradedUsage y = Due.load(program);
            y.check();
            Due.is("typeAt of " + program, y.typeAt(0, 0), -1);
        }
    }

    private static void otherBitsDoNotMatter() {
        String pair = "PAIR LIT:1 BOX:2 LIT:1";
        at(pair, 0, -1, 8);
        at(pair, 0, Integer.MIN_VALUE, 8);
        at(pair, 1, -2, INT);
        at(pair, 1, -1, 22);
        at(pair, 2, 0xfffffffd, INT);
        at(pair, 2, Integer.MIN_VALUE, -1);
        at(pair, 1, Integer.MIN_VALUE, INT);
    }

    private static void theLastStep() {
        // The 29th step goes into the pair, the 30th beyond it.
        GradedUsage x = Due.accepted("BOX:1 ".repeat(28) + "PAIR LIT:1 BOX:2 LIT:1");
        int right = 1 << 28;
        Due.is("typeAt(28, right)", x.typeAt(28, right), 8);
        Due.is("typeAt(29, 0)", x.typeAt(29, 0), INT);
        Due.is("typeAt(29, right)", x.typeAt(29, right), 22);
        Due.is("typeAt(29, -right)", x.typeAt(29, -right), 22);
        Due.is("typeAt(30, right)", x.typeAt(30, right), INT);
        Due.is("typeAt(30, right) with the sign", x.typeAt(30, right | Integer.MIN_VALUE), INT);
        Due.is("typeAt(30, right and 30th)", x.typeAt(30, 3 << 28), -1);
        Due.is("typeAt(30, 0)", x.typeAt(30, 0), -1);
        Due.is("typeAt(31, right)", x.typeAt(31, right), -1);
        GradedUsage last = Due.accepted("BOX:1 ".repeat(29) + "PAIR LIT:1 LIT:1");
        Due.is("typeAt(29, 0) of the pair", last.typeAt(29, 0), 8);
        Due.is("typeAt(30, 0) of the pair", last.typeAt(30, 0), INT);
        Due.is("typeAt(30, 1 << 29) of the pair", last.typeAt(30, 1 << 29), INT);
        Due.is("typeAt(30, -1 << 29) of the pair", last.typeAt(30, -1 << 29), INT);
    }

    private static void onlyTheStatusDecides() {
        for (States.State state : States.all()) {
            GradedUsage x = state.make();
            String before = Due.allAnswers(x);
            Due.is("typeAt(0, 5) answers with " + state.name(), x.typeAt(0, 5) >= 4 ? 1 : 0, state.accepted() ? 1 : 0);
            x.typeAt(30, -1);
            x.typeAt(31, -1);
            Due.unchanged("typeAt with " + state.name(), x, before);
        }
    }
}
