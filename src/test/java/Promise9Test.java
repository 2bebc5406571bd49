/** Promise 9: the run results, and the promise that grades bound the counts. */
public final class Promise9Test {
    private static final int[] WRONG = {Integer.MIN_VALUE, -2, -1, 32, 33, 64, Integer.MAX_VALUE};

    public static void main(String[] args) {
        readingChangesNothing();
        readingInEveryState();
        recordsThatAreNotThere();
        clearedResults();
        sumsOfCounts();
        gradesBoundCounts();
        whereTheBoundCannotHold();
        Due.finish();
    }

    private static void readingChangesNothing() {
        GradedUsage x = Due.accepted(Samples.DOUBLE);
        x.run();
        for (int round = 0; round < 3; round++) {
            Due.runResults("round " + round, x, GradedUsage.OUT_INT, 40, 1, 2);
            Due.record("round " + round, x, 0, 1, GradedUsage.MANY, 2);
            Due.is("status in round " + round, x.status(), GradedUsage.ST_OK);
        }
    }

    private static void readingInEveryState() {
        for (States.State state : States.all()) {
            GradedUsage x = state.make();
            String before = Due.allAnswers(x);
            Due.unchanged("reading with " + state.name(), x, before);
            for (int k = -1; k <= 32; k++) {
                boolean there = k >= 0 && k < x.records();
                Due.is("recordNode(" + k + ") with " + state.name(), x.recordNode(k) >= 0 ? 1 : 0, there ? 1 : 0);
                Due.is("recordGrade(" + k + ") with " + state.name(), x.recordGrade(k) >= 0 ? 1 : 0, there ? 1 : 0);
                Due.is("recordCount(" + k + ") with " + state.name(), x.recordCount(k) >= 0 ? 1 : 0, there ? 1 : 0);
            }
            if (state.outcome() != GradedUsage.OUT_INT) {
                Due.is("valueInt with " + state.name(), x.valueInt(), 0);
            }
            if (state.outcome() == GradedUsage.OUT_NONE) {
                Due.noRunResults(state.name(), x);
            }
            x.check();
            Due.noRunResults("after check with " + state.name(), x);
        }
    }

    private static void recordsThatAreNotThere() {
        GradedUsage x = Due.accepted("LETPAIR:3 PAIR LIT:1 LIT:2 VAR:0");
        x.run();
        for (int k : WRONG) {
            Due.record("no such record", x, k, -1, -1, -1);
        }
        for (int k = 2; k < 32; k++) {
            Due.record("no such record", x, k, -1, -1, -1);
        }
        Due.record("x", x, 0, 0, GradedUsage.ONE, 0);
        Due.record("y", x, 1, 0, GradedUsage.ONE, 1);
        // Records of an earlier, longer run do not show.
        GradedUsage many = Due.accepted(Samples.RECORDS_32);
        many.run();
        Due.is("recordNode(31)", many.recordNode(31), 2);
        Due.record("no 33rd record", many, 32, -1, -1, -1);
        many.reset();
        Due.add(many, "LETBOX BOX:1 LIT:1 VAR:0");
        many.check();
        many.run();
        for (int k = 1; k < 33; k++) {
            Due.record("no such record of the shorter run", many, k, -1, -1, -1);
        }
    }

    private static GradedUsage ran() {
        GradedUsage x = Due.accepted(Samples.DOUBLE);
        x.run();
        return x;
    }

    private static void clearedResults() {
        Due.noRunResults("after construction", new GradedUsage(64, 32, 64));
        GradedUsage x = ran();
        x.reset();
        Due.noRunResults("after reset", x);
        x = ran();
        x.addNode(GradedUsage.LIT, 1);
        Due.noRunResults("after addNode", x);
        x = ran();
        x.check();
        Due.noRunResults("after check", x);
        x = ran();
        x.addNode(18, 1);
        Due.runResults("after a refused addNode", x, GradedUsage.OUT_INT, 40, 1, 2);
        // A run without a number clears the number of the run before.
        x = ran();
        x.reset();
        Due.add(x, "BOX:1 LIT:1");
        x.check();
        x.run();
        Due.runResults("after a box", x, GradedUsage.OUT_BOX, 0, 0, 0);
    }

    private static void sumsOfCounts() {
        String[] programs = {Samples.DOUBLE, Samples.DEREFS_64, Samples.DEREFS_66, Samples.RECORDS_32,
            Samples.RECORDS_34};
        for (String program : programs) {
            for (int limit = 1; limit <= 64; limit++) {
                GradedUsage x = Due.load(limit, limit, limit, program);
                x.check();
                x.run();
                int sum = 0;
                for (int k = 0; k < x.records(); k++) {
                    sum += x.recordCount(k);
                }
                Due.is("sum of the counts of " + program, sum, x.derefs());
                Due.is("derefs within the limit", x.derefs() <= limit ? 1 : 0, 1);
                Due.is("records within the limit", x.records() <= Math.min(limit, 32) ? 1 : 0, 1);
            }
        }
    }

    private static void gradesBoundCounts() {
        // Usage through erased and linear places: nothing below may be read more often than graded.
        String[] programs = {"APP LAM:1 T_INT APP LAM:0 T_INT LIT:1 VAR:0 LIT:5",
            "APP LAM:1 T_PAIR T_INT T_INT LETPAIR:3 VAR:0 ADD VAR:0 VAR:1 PAIR LIT:1 LIT:2",
            "APP LAM:0 T_INT LETBOX BOX:0 VAR:0 LIT:3 LIT:5",
            "APP LAM:1 T_INT CASE:3 INL T_INT LIT:1 VAR:1 VAR:1 LIT:5"};
        for (String program : programs) {
            for (int limit = 1; limit <= 6; limit++) {
                GradedUsage x = Due.load(limit, limit, limit, program);
                Due.is("check of " + program, x.check(), GradedUsage.ST_OK);
                x.run();
                for (int k = 0; k < x.records(); k++) {
                    boolean bounded = x.recordGrade(k) == GradedUsage.MANY || x.recordCount(k) <= x.recordGrade(k);
                    Due.is("the bound of record " + k + " of " + program, bounded ? 1 : 0, 1);
                }
            }
        }
    }

    // The document contradicts itself here (README.md): promises 4 and 8 settle every answer below, and
    // the bound that promise 9 puts on records of grade ONE does not come out of them. These rows hold
    // the program to promises 4 and 8; they change when the document does.
    private static void whereTheBoundCannotHold() {
        String[] programs = {"LETPAIR:3 LETBOX BOX:1 LIT:5 PAIR VAR:0 LIT:1 ADD VAR:1 VAR:1",
            "CASE:3 LETBOX BOX:1 LIT:5 INL T_INT VAR:0 ADD VAR:0 VAR:0 LIT:0"};
        for (String program : programs) {
            GradedUsage x = Due.accepted(program);
            Due.is("run of " + program, x.run(), GradedUsage.OUT_INT);
            Due.is("value of " + program, x.valueInt(), 10);
            Due.record(program, x, 0, 1, GradedUsage.ONE, 2);
            Due.record(program, x, 1, 0, GradedUsage.MANY, 2);
        }
    }
}
