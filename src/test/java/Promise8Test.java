/** Promise 8: run, step by step, and its three limits. */
public final class Promise8Test {
    public static void main(String[] args) {
        refusedRuns();
        runInEveryState();
        values();
        sums();
        functions();
        pairs();
        branches();
        boxes();
        environmentsAreThoseOfTheClosures();
        derefLimit();
        recordLimit();
        frameLimit();
        onlyANumberIsAValue();
        haltsKeepWhatWasReached();
        runsStartAfresh();
        Due.finish();
    }

    private static void refusedRuns() {
        GradedUsage x = Due.load(Samples.DOUBLE);
        Due.is("run of an unchecked program", x.run(), GradedUsage.OUT_NONE);
        Due.is("status after a refused run", x.status(), GradedUsage.ST_UNCHECKED);
        Due.noRunResults("after a refused run", x);
        String[] refused = {"LIT:1 LIT:1", "VAR:0", "ADD LIT:1 BOX:1 LIT:1", "LAM:0 T_INT VAR:0"};
        for (String program : refused) {
            GradedUsage y = Due.load(program);
            int status = y.check();
            int errorNode = y.errorNode();
            Due.is("run of " + program, y.run(), GradedUsage.OUT_NONE);
            Due.is("status of " + program, y.status(), status);
            Due.is("errorNode of " + program, y.errorNode(), errorNode);
            Due.noRunResults("after the refused run of " + program, y);
        }
    }

    private static void runInEveryState() {
        for (States.State state : States.all()) {
            GradedUsage x = state.make();
            String before = Due.allAnswers(x);
            int outcome = x.run();
            if (!state.accepted()) {
                Due.is("run with " + state.name(), outcome, GradedUsage.OUT_NONE);
                Due.unchanged("a refused run with " + state.name(), x, before);
                Due.is("the next node with " + state.name(), x.addNode(GradedUsage.LIT, 0),
                    state.full() ? -1 : state.nodes());
            } else if (state.outcome() != GradedUsage.OUT_NONE) {
                Due.is("run again with " + state.name(), outcome, state.outcome());
                Due.unchanged("a run again with " + state.name(), x, before);
            }
        }
    }

    private static GradedUsage ran(String program, int outcome, int valueInt, int records, int derefs) {
        return ranWithin(64, 32, 64, program, outcome, valueInt, records, derefs);
    }

    private static GradedUsage ranWithin(int derefLimit, int recordLimit, int frameLimit, String program,
            int outcome, int valueInt, int records, int derefs) {
        GradedUsage x = Due.load(derefLimit, recordLimit, frameLimit, program);
        Due.is("check of " + program, x.check(), GradedUsage.ST_OK);
        Due.is("run of " + program, x.run(), outcome);
        Due.runResults(program, x, outcome, valueInt, records, derefs);
        Due.is("status after run of " + program, x.status(), GradedUsage.ST_OK);
        return x;
    }

    private static void values() {
        ran("LIT:-7", GradedUsage.OUT_INT, -7, 0, 0);
        ran("LAM:3 T_INT VAR:0", GradedUsage.OUT_FUN, 0, 0, 0);
        ran("PAIR LIT:1 LIT:2", GradedUsage.OUT_PAIR, 0, 0, 0);
        ran("INL T_INT LIT:1", GradedUsage.OUT_INL, 0, 0, 0);
        ran("INR T_INT LIT:1", GradedUsage.OUT_INR, 0, 0, 0);
        ran("BOX:1 LIT:1", GradedUsage.OUT_BOX, 0, 0, 0);
        // The head is evaluated, what is inside is not.
        ran("PAIR ADD LIT:1 LIT:2 APP LAM:3 T_INT VAR:0 LIT:1", GradedUsage.OUT_PAIR, 0, 0, 0);
        ran("LETBOX BOX:1 INR T_INT LIT:1 VAR:0", GradedUsage.OUT_INR, 0, 1, 1);
        ran("APP LAM:3 T_INT LAM:3 T_INT VAR:1 ADD LIT:1 LIT:2", GradedUsage.OUT_FUN, 0, 1, 0);
        ran("CASE:3 CASE:3 INL T_INT LIT:4 INL T_INT VAR:0 INR T_INT VAR:0 BOX:1 VAR:0 BOX:1 VAR:0",
            GradedUsage.OUT_BOX, 0, 2, 0);
    }

    private static void sums() {
        ran("ADD LIT:3 LIT:4", GradedUsage.OUT_INT, 7, 0, 0);
        ran("ADD ADD LIT:1 LIT:2 ADD LIT:4 LIT:8", GradedUsage.OUT_INT, 15, 0, 0);
        ran("ADD LIT:2147483647 LIT:1", GradedUsage.OUT_INT, Integer.MIN_VALUE, 0, 0);
        ran("ADD LIT:-2147483648 LIT:-1", GradedUsage.OUT_INT, Integer.MAX_VALUE, 0, 0);
        ran("ADD LIT:-2147483648 LIT:-2147483648", GradedUsage.OUT_INT, 0, 0, 0);
        ran(Samples.leftSum(15), GradedUsage.OUT_INT, 120, 0, 0);
    }

    private static void functions() {
        GradedUsage x = ran(Samples.DOUBLE, GradedUsage.OUT_INT, 40, 1, 2);
        Due.record("DOUBLE", x, 0, 1, GradedUsage.MANY, 2);
        x = ran("APP LAM:2 T_INT LIT:5 LIT:6", GradedUsage.OUT_INT, 5, 1, 0);
        Due.record("an unused argument", x, 0, 1, GradedUsage.MANY, 0);
        // The function's variable comes first, then those of the place where it was made.
        x = ran("APP APP LAM:3 T_INT LAM:3 T_INT ADD VAR:1 VAR:1 LIT:10 LIT:1", GradedUsage.OUT_INT, 20, 2, 2);
        Due.record("the outer argument", x, 0, 2, GradedUsage.MANY, 2);
        Due.record("the inner argument", x, 1, 4, GradedUsage.ZERO, 0);
        // By name: the argument's own readings come again with each reading of it.
        x = ran("LETBOX BOX:2 LIT:3 APP LAM:3 T_INT ADD VAR:0 VAR:0 VAR:0", GradedUsage.OUT_INT, 6, 2, 4);
        Due.record("the box", x, 0, 0, GradedUsage.MANY, 2);
        Due.record("the argument", x, 1, 4, GradedUsage.MANY, 2);
    }

    private static void pairs() {
        GradedUsage x = ran("LETPAIR:3 PAIR LIT:1 LIT:20 ADD VAR:0 ADD VAR:0 VAR:1", GradedUsage.OUT_INT, 41, 2, 3);
        Due.record("x of LETPAIR", x, 0, 0, GradedUsage.MANY, 1);
        Due.record("y of LETPAIR", x, 1, 0, GradedUsage.MANY, 2);
        x = ran("LETPAIR:1 PAIR LIT:1 LIT:20 VAR:1", GradedUsage.OUT_INT, 1, 2, 1);
        Due.record("x alone", x, 0, 0, GradedUsage.ONE, 1);
        Due.record("y unused", x, 1, 0, GradedUsage.ONE, 0);
        ran("LETBOX BOX:2 LIT:100 LETPAIR:3 PAIR LIT:1 LIT:20 ADD VAR:2 ADD VAR:1 VAR:0",
            GradedUsage.OUT_INT, 121, 3, 3);
    }

    private static void branches() {
        GradedUsage x = ran("CASE:3 INL T_INT LIT:3 ADD VAR:0 LIT:100 LIT:7", GradedUsage.OUT_INT, 103, 1, 1);
        Due.record("the left branch", x, 0, 0, GradedUsage.ONE, 1);
        x = ran("CASE:3 INR T_INT LIT:3 LIT:7 ADD VAR:0 ADD VAR:0 LIT:1000", GradedUsage.OUT_INT, 1006, 1, 2);
        Due.record("the right branch", x, 0, 0, GradedUsage.MANY, 2);
        ran("LETBOX BOX:2 LIT:50 CASE:3 INR T_INT LIT:3 VAR:1 ADD VAR:0 VAR:1", GradedUsage.OUT_INT, 53, 2, 2);
    }

    private static void boxes() {
        GradedUsage x = ran("LETBOX BOX:2 LIT:5 ADD VAR:0 VAR:0", GradedUsage.OUT_INT, 10, 1, 2);
        Due.record("a box", x, 0, 0, GradedUsage.MANY, 2);
        x = ran("LETBOX BOX:0 LIT:5 LIT:9", GradedUsage.OUT_INT, 9, 1, 0);
        Due.record("an erased box", x, 0, 0, GradedUsage.ZERO, 0);
        x = ran("LETBOX BOX:2 LIT:5 LETBOX BOX:1 ADD VAR:0 LIT:1 ADD VAR:0 VAR:1", GradedUsage.OUT_INT, 11, 2, 3);
        Due.record("the outer box", x, 0, 0, GradedUsage.MANY, 2);
        Due.record("the inner box", x, 1, 3, GradedUsage.ONE, 1);
    }

    private static void environmentsAreThoseOfTheClosures() {
        // Each term is closed over the place where it stands, not the place where it is read.
        ran("LETBOX BOX:2 LIT:1 LETBOX BOX:2 LAM:1 T_INT ADD VAR:0 VAR:1 LETBOX BOX:2 LIT:100 APP VAR:1 VAR:0",
            GradedUsage.OUT_INT, 101, 4, 4);
        ran("LETBOX BOX:2 LIT:1 LETPAIR:3 PAIR ADD VAR:0 LIT:10 VAR:0 LETBOX BOX:2 LIT:500 ADD VAR:2 VAR:1",
            GradedUsage.OUT_INT, 12, 4, 4);
        ran("LETBOX BOX:2 LIT:1 CASE:3 INL T_INT ADD VAR:0 LIT:10 LETBOX BOX:2 LIT:500 ADD VAR:0 VAR:1 LIT:0",
            GradedUsage.OUT_INT, 511, 3, 3);
        // The frame's environment comes back after the first child was evaluated elsewhere.
        ran("LETBOX BOX:2 LIT:1 ADD APP LAM:3 T_INT ADD VAR:0 LIT:40 LIT:2 VAR:0", GradedUsage.OUT_INT, 43, 2, 2);
        ran("LETBOX BOX:2 LIT:1 LETPAIR:3 APP LAM:3 T_INT PAIR VAR:0 LIT:5 LIT:7 ADD VAR:2 ADD VAR:1 VAR:0",
            GradedUsage.OUT_INT, 13, 4, 4);
    }

    private static void derefLimit() {
        String program = "LETBOX BOX:2 LIT:5 ADD VAR:0 ADD VAR:0 VAR:0";
        for (int limit = 1; limit <= 2; limit++) {
            GradedUsage x = ranWithin(limit, 32, 64, program, GradedUsage.OUT_DEREF_LIMIT, 0, 1, limit);
            Due.record("a limit of " + limit, x, 0, 0, GradedUsage.MANY, limit);
        }
        ranWithin(3, 32, 64, program, GradedUsage.OUT_INT, 15, 1, 3);
        ranWithin(64, 32, 64, Samples.DEREFS_64, GradedUsage.OUT_INT, 33, 6, 64);
        ranWithin(64, 32, 64, Samples.DEREFS_66, GradedUsage.OUT_DEREF_LIMIT, 0, 6, 64);
        ranWithin(63, 32, 64, Samples.DEREFS_64, GradedUsage.OUT_DEREF_LIMIT, 0, 6, 63);
    }

    private static void recordLimit() {
        // The first of a pair's two records stays when the second cannot be made.
        GradedUsage x = ranWithin(64, 1, 64, "LETPAIR:3 PAIR LIT:1 LIT:2 VAR:1",
            GradedUsage.OUT_RECORD_LIMIT, 0, 1, 0);
        Due.record("half a pair", x, 0, 0, GradedUsage.ONE, 0);
        Due.is("recordNode(1) of half a pair", x.recordNode(1), -1);
        ranWithin(64, 2, 64, "LETPAIR:3 PAIR LIT:1 LIT:2 VAR:1", GradedUsage.OUT_INT, 1, 2, 1);
        String[] second = {"LETBOX BOX:1 VAR:0 VAR:0", "APP LAM:3 T_INT VAR:0 VAR:0",
            "LETPAIR:3 PAIR VAR:0 LIT:1 LIT:2", "CASE:3 INL T_INT VAR:0 VAR:0 VAR:0"};
        for (String term : second) {
            x = ranWithin(64, 1, 64, "LETBOX BOX:2 LIT:5 ADD VAR:0 " + term, GradedUsage.OUT_RECORD_LIMIT, 0, 1, 1);
            Due.record("before " + term, x, 0, 0, GradedUsage.MANY, 1);
        }
        ranWithin(64, 32, 64, Samples.RECORDS_32, GradedUsage.OUT_INT, 14, 32, 25);
        ranWithin(64, 31, 64, Samples.RECORDS_32, GradedUsage.OUT_RECORD_LIMIT, 0, 31, 25);
        ranWithin(64, 32, 64, Samples.RECORDS_34, GradedUsage.OUT_RECORD_LIMIT, 0, 32, 26);
    }

    private static void frameLimit() {
        for (int frames = 1; frames <= 14; frames++) {
            int sum = frames * (frames + 1) / 2;
            ranWithin(64, 32, frames, Samples.leftSum(frames), GradedUsage.OUT_INT, sum, 0, 0);
            ranWithin(64, 32, frames, Samples.leftSum(frames + 1), GradedUsage.OUT_FRAME_LIMIT, 0, 0, 0);
        }
        ranWithin(64, 32, 42, Samples.FRAMES_42, GradedUsage.OUT_INT, 42, 8, 14);
        ranWithin(64, 32, 41, Samples.FRAMES_42, GradedUsage.OUT_FRAME_LIMIT, 0, 8, 13);
        ranWithin(64, 32, 48, Samples.FRAMES_48, GradedUsage.OUT_INT, 48, 27, 46);
        ranWithin(64, 32, 47, Samples.FRAMES_48, GradedUsage.OUT_FRAME_LIMIT, 0, 27, 43);
        // Right operands wait behind a number, which takes the place of the left frame.
        ranWithin(64, 32, 1, "ADD LIT:1 LIT:2", GradedUsage.OUT_INT, 3, 0, 0);
        ranWithin(64, 32, 1, "ADD LIT:1 ADD LIT:2 LIT:3", GradedUsage.OUT_FRAME_LIMIT, 0, 0, 0);
        ranWithin(64, 32, 2, "ADD LIT:1 ADD LIT:2 LIT:3", GradedUsage.OUT_INT, 6, 0, 0);
        String[] pushing = {"ADD LIT:1 LIT:2", "APP LAM:3 T_INT VAR:0 LIT:3", "LETPAIR:3 PAIR LIT:1 LIT:2 LIT:3",
            "CASE:3 INL T_INT LIT:1 LIT:3 LIT:3", "LETBOX BOX:1 LIT:3 VAR:0"};
        for (String term : pushing) {
            ranWithin(64, 32, 1, "ADD " + term + " LIT:0", GradedUsage.OUT_FRAME_LIMIT, 0, 0, 0);
            GradedUsage x = Due.load(64, 32, 2, "ADD " + term + " LIT:0");
            x.check();
            Due.is("two frames for " + term, x.run(), GradedUsage.OUT_INT);
            Due.is("the value of " + term, x.valueInt(), 3);
        }
        // Frames are gone once popped: the body of a binder starts with those below alone.
        ranWithin(64, 32, 1, "LETBOX BOX:1 LIT:1 LETBOX BOX:1 LIT:2 ADD VAR:0 VAR:1", GradedUsage.OUT_INT, 3, 2, 2);
        GradedUsage x = ranWithin(64, 32, 1, "LETBOX BOX:2 LIT:1 ADD VAR:0 ADD VAR:0 VAR:0",
            GradedUsage.OUT_FRAME_LIMIT, 0, 1, 1);
        Due.record("a frame too many", x, 0, 0, GradedUsage.MANY, 1);
    }

    private static void onlyANumberIsAValue() {
        // Each run has added 3 and 4 by the time it meets its limit.
        String sum = "ADD ADD LIT:3 LIT:4 ";
        ranWithin(1, 32, 64, "LETBOX BOX:2 LIT:1 " + sum + "ADD VAR:0 VAR:0", GradedUsage.OUT_DEREF_LIMIT, 0, 1, 1);
        ranWithin(64, 1, 64, sum + "LETPAIR:3 PAIR LIT:1 LIT:2 VAR:0", GradedUsage.OUT_RECORD_LIMIT, 0, 1, 0);
        ranWithin(64, 32, 2, sum + "ADD ADD LIT:1 LIT:2 LIT:3", GradedUsage.OUT_FRAME_LIMIT, 0, 0, 0);
        ranWithin(64, 32, 3, sum + "ADD ADD LIT:1 LIT:2 LIT:3", GradedUsage.OUT_INT, 13, 0, 0);
        ran("LIT:0", GradedUsage.OUT_INT, 0, 0, 0);
    }

    private static void haltsKeepWhatWasReached() {
        // Both boxes are read before the limit, the second one more often.
        String start = "LETBOX BOX:2 LIT:1 LETBOX BOX:2 LIT:2 ADD VAR:1 ADD VAR:0 ADD VAR:0 ";
        GradedUsage[] halted = {
            ranWithin(3, 32, 64, start + "VAR:1", GradedUsage.OUT_DEREF_LIMIT, 0, 2, 3),
            ranWithin(64, 2, 64, start + "LETBOX BOX:2 LIT:3 VAR:0", GradedUsage.OUT_RECORD_LIMIT, 0, 2, 3),
            ranWithin(64, 32, 3, start + "ADD LIT:1 LIT:2", GradedUsage.OUT_FRAME_LIMIT, 0, 2, 3)};
        for (GradedUsage x : halted) {
            Due.record("outcome " + x.outcome(), x, 0, 0, GradedUsage.MANY, 1);
            Due.record("outcome " + x.outcome(), x, 1, 3, GradedUsage.MANY, 2);
            Due.record("outcome " + x.outcome(), x, 2, -1, -1, -1);
        }
        // A variable read at the limit is not counted, though nothing else is left to do.
        GradedUsage x = ranWithin(1, 32, 64, "LETBOX BOX:2 LIT:1 LETBOX BOX:2 VAR:0 VAR:0",
            GradedUsage.OUT_DEREF_LIMIT, 0, 2, 1);
        Due.record("the box not reached", x, 0, 0, GradedUsage.MANY, 0);
        Due.record("the box reached", x, 1, 3, GradedUsage.MANY, 1);
    }

    private static void runsStartAfresh() {
        GradedUsage x = Due.load(2, 32, 3, "LETBOX BOX:2 LIT:5 ADD VAR:0 ADD VAR:0 VAR:0");
        x.check();
        for (int round = 0; round < 5; round++) {
            Due.is("run number " + round, x.run(), GradedUsage.OUT_DEREF_LIMIT);
            Due.runResults("run number " + round, x, GradedUsage.OUT_DEREF_LIMIT, 0, 1, 2);
            Due.record("run number " + round, x, 0, 0, GradedUsage.MANY, 2);
            Due.is("binderGrade after run", x.binderGrade(0), GradedUsage.MANY);
            Due.is("typeAt after run", x.typeAt(0, 0), 4);
        }
        x.reset();
        Due.add(x, "LETBOX BOX:1 LIT:5 VAR:0");
        x.check();
        Due.is("run of the next program", x.run(), GradedUsage.OUT_INT);
        Due.runResults("the next program", x, GradedUsage.OUT_INT, 5, 1, 1);
        Due.record("the next program", x, 0, 0, GradedUsage.ONE, 1);
    }
}
