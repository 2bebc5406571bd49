import java.lang.reflect.Field;

/** Promise 1: construction, and the limits that it clamps. */
public final class Promise1Test {
    private static final int[] LOW = {1, 0, -1, -64, Integer.MIN_VALUE};
    private static final int[] HIGH_64 = {64, 65, 66, 1000, Integer.MAX_VALUE};
    private static final int[] HIGH_32 = {32, 33, 34, 64, Integer.MAX_VALUE};

    public static void main(String[] args) throws ReflectiveOperationException {
        startsEmpty();
        derefLimitIsClamped();
        recordLimitIsClamped();
        frameLimitIsClamped();
        frameLimitItself();
        limitsInRangeAreKept();
        limitsNeverChange();
        noMethodAltersTheLimits();
        objectsAreApart();
        Due.finish();
    }

    private static void startsEmpty() {
        int[] limits = {Integer.MIN_VALUE, -1, 0, 1, 7, 64, Integer.MAX_VALUE};
        for (int limit : limits) {
            GradedUsage x = new GradedUsage(limit, limit, limit);
            Due.is("status of a new object", x.status(), GradedUsage.ST_UNCHECKED);
            Due.is("errorNode of a new object", x.errorNode(), -1);
            Due.noRunResults("a new object", x);
            Due.is("binderGrade of a new object", x.binderGrade(0), -1);
            Due.is("binderUsage of a new object", x.binderUsage(0, 0), -1);
            Due.is("typeAt of a new object", x.typeAt(0, 0), -1);
            Due.is("run of a new object", x.run(), GradedUsage.OUT_NONE);
            Due.is("check of a new object", x.check(), GradedUsage.ST_SYNTAX);
            Due.is("errorNode of an empty program", x.errorNode(), 0);
            Due.is("the first node's index", x.addNode(GradedUsage.LIT, 1), 0);
        }
    }

    private static void ends(String what, GradedUsage x, int outcome, int records, int derefs) {
        x.check();
        Due.is(what + ": run", x.run(), outcome);
        Due.is(what + ": records", x.records(), records);
        Due.is(what + ": derefs", x.derefs(), derefs);
    }

    private static void derefLimitIsClamped() {
        for (int limit : LOW) {
            String what = "derefLimit " + limit;
            ends(what, Due.load(limit, 32, 64, "LETBOX BOX:2 LIT:1 VAR:0"), GradedUsage.OUT_INT, 1, 1);
            ends(what, Due.load(limit, 32, 64, "LETBOX BOX:2 LIT:1 ADD VAR:0 VAR:0"),
                GradedUsage.OUT_DEREF_LIMIT, 1, 1);
        }
        for (int limit : HIGH_64) {
            String what = "derefLimit " + limit;
            ends(what, Due.load(limit, 32, 64, Samples.DEREFS_64), GradedUsage.OUT_INT, 6, 64);
            ends(what, Due.load(limit, 32, 64, Samples.DEREFS_66), GradedUsage.OUT_DEREF_LIMIT, 6, 64);
        }
    }

    private static void recordLimitIsClamped() {
        for (int limit : LOW) {
            String what = "recordLimit " + limit;
            ends(what, Due.load(64, limit, 64, "LETBOX BOX:2 LIT:1 VAR:0"), GradedUsage.OUT_INT, 1, 1);
            ends(what, Due.load(64, limit, 64, "LETPAIR:3 PAIR LIT:1 LIT:2 LIT:3"),
                GradedUsage.OUT_RECORD_LIMIT, 1, 0);
        }
        for (int limit : HIGH_32) {
            String what = "recordLimit " + limit;
            ends(what, Due.load(64, limit, 64, Samples.RECORDS_32), GradedUsage.OUT_INT, 32, 25);
            ends(what, Due.load(64, limit, 64, Samples.RECORDS_34), GradedUsage.OUT_RECORD_LIMIT, 32, 26);
        }
    }

    private static void frameLimitIsClamped() {
        for (int limit : LOW) {
            String what = "frameLimit " + limit;
            ends(what, Due.load(64, 32, limit, Samples.leftSum(1)), GradedUsage.OUT_INT, 0, 0);
            ends(what, Due.load(64, 32, limit, Samples.leftSum(2)), GradedUsage.OUT_FRAME_LIMIT, 0, 0);
        }
        for (int limit : HIGH_64) {
            ends("frameLimit " + limit, Due.load(64, 32, limit, Samples.FRAMES_42), GradedUsage.OUT_INT, 8, 14);
            ends("frameLimit " + limit, Due.load(64, 32, limit, Samples.FRAMES_48), GradedUsage.OUT_INT, 27, 46);
        }
    }

    /** No program is known that needs more than 48 frames, so no known run tells 64 from 63: the field is read. */
    private static void frameLimitItself() throws ReflectiveOperationException {
        Field field = GradedUsage.class.getDeclaredField("frameLimit");
        field.setAccessible(true);
        for (int limit : LOW) {
            Due.is("frameLimit " + limit + " kept as", field.getInt(new GradedUsage(64, 32, limit)), 1);
        }
        for (int limit : HIGH_64) {
            Due.is("frameLimit " + limit + " kept as", field.getInt(new GradedUsage(1, 1, limit)), 64);
        }
        for (int limit = 1; limit <= 64; limit++) {
            Due.is("frameLimit " + limit + " kept as", field.getInt(new GradedUsage(1, 1, limit)), limit);
        }
    }

    private static void limitsInRangeAreKept() {
        for (int limit = 1; limit <= 64; limit++) {
            ends("frameLimit " + limit, Due.load(64, 32, limit, Samples.leftSum(15)),
                limit >= 15 ? GradedUsage.OUT_INT : GradedUsage.OUT_FRAME_LIMIT, 0, 0);
            GradedUsage x = Due.load(64, 32, limit, Samples.FRAMES_48);
            x.check();
            Due.is("run with frameLimit " + limit, x.run(),
                limit >= 48 ? GradedUsage.OUT_INT : GradedUsage.OUT_FRAME_LIMIT);
        }
        for (int limit = 1; limit <= 64; limit++) {
            ends("derefLimit " + limit, Due.load(limit, 32, 64, Samples.DEREFS_64),
                limit == 64 ? GradedUsage.OUT_INT : GradedUsage.OUT_DEREF_LIMIT, 6, limit);
        }
        for (int limit = 1; limit <= 32; limit++) {
            GradedUsage x = Due.load(64, limit, 64, Samples.RECORDS_32);
            x.check();
            Due.is("run with recordLimit " + limit, x.run(),
                limit == 32 ? GradedUsage.OUT_INT : GradedUsage.OUT_RECORD_LIMIT);
            Due.is("records with recordLimit " + limit, x.records(), limit);
        }
    }

    private static void limitsNeverChange() {
        GradedUsage x = new GradedUsage(2, 1, 2);
        for (int round = 0; round < 3; round++) {
            x.reset();
            Due.add(x, Samples.leftSum(2));
            ends("frames, round " + round, x, GradedUsage.OUT_INT, 0, 0);
            x.reset();
            Due.add(x, Samples.leftSum(3));
            ends("too many frames, round " + round, x, GradedUsage.OUT_FRAME_LIMIT, 0, 0);
            x.reset();
            Due.add(x, "LETBOX BOX:2 LIT:1 ADD VAR:0 ADD VAR:0 VAR:0");
            ends("too many dereferences, round " + round, x, GradedUsage.OUT_DEREF_LIMIT, 1, 2);
            ends("the same again, round " + round, x, GradedUsage.OUT_DEREF_LIMIT, 1, 2);
            x.reset();
            Due.add(x, "LETBOX BOX:2 LIT:1 LETBOX BOX:2 LIT:2 VAR:0");
            ends("too many records, round " + round, x, GradedUsage.OUT_RECORD_LIMIT, 1, 0);
        }
    }

    /** Calls every method, with ordinary arguments and with the outermost ones. */
    private static void callAll(GradedUsage x) {
        int[] numbers = {Integer.MIN_VALUE, -1, 0, 1, 31, 32, 33, 64, 65, Integer.MAX_VALUE};
        for (int a : numbers) {
            for (int b : numbers) {
                x.addNode(a, b);
                x.binderUsage(a, b);
                x.typeAt(a, b);
            }
            x.check();
            x.run();
            x.binderGrade(a);
            x.recordNode(a);
            x.recordGrade(a);
            x.recordCount(a);
        }
        Due.allAnswers(x);
        x.reset();
    }

    private static void noMethodAltersTheLimits() {
        GradedUsage x = new GradedUsage(2, 1, 2);
        String[] programs = {"LETBOX BOX:2 LIT:1 ADD VAR:0 ADD VAR:0 VAR:0", "LETPAIR:3 PAIR LIT:1 LIT:2 LIT:3",
            Samples.leftSum(3), "BOX:1 LIT:1"};
        int[] outcomes = {GradedUsage.OUT_DEREF_LIMIT, GradedUsage.OUT_RECORD_LIMIT, GradedUsage.OUT_FRAME_LIMIT,
            GradedUsage.OUT_BOX};
        for (int first = 0; first < programs.length; first++) {
            Due.add(x, programs[first]);
            x.check();
            x.run();
            callAll(x);
            for (int k = 0; k < programs.length; k++) {
                Due.add(x, programs[k]);
                x.check();
                Due.is("run of " + programs[k] + " after every call", x.run(), outcomes[k]);
                x.reset();
            }
        }
    }

    private static void objectsAreApart() {
        GradedUsage a = Due.accepted(Samples.DOUBLE);
        a.run();
        GradedUsage b = Due.load(1, 1, 1, "LIT:3");
        b.check();
        b.run();
        Due.runResults("the first of two objects", a, GradedUsage.OUT_INT, 40, 1, 2);
        Due.runResults("the second of two objects", b, GradedUsage.OUT_INT, 3, 0, 0);
        Due.is("the first object runs again", a.run(), GradedUsage.OUT_INT);
        Due.is("the first object's value", a.valueInt(), 40);
    }
}
