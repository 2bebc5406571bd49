import java.util.ArrayList;
import java.util.List;

/** Made-up programs: the class must answer every call as the model does (promises 2 to 9). */
public final class ModelTest {
    private static final int PROGRAMS = 60000;
    private static final int[] STATUSES = new int[6];
    private static final int[] OUTCOMES = new int[10];

    public static void main(String[] args) {
        Maker maker = new Maker(20261115L);
        GradedUsage used = new GradedUsage(64, 32, 64);
        for (int k = 0; k < PROGRAMS && Due.wrongSoFar() < 5; k++) {
            List<Model.Node> program = maker.program();
            Model model = new Model(program);
            used.reset();
            compare(program, model, used, 64, 32, 64, maker);
            int derefs = 1 + maker.below(12);
            int records = 1 + maker.below(8);
            int frames = 1 + maker.below(8);
            GradedUsage fresh = new GradedUsage(derefs, records, frames);
            compare(program, model, fresh, derefs, records, frames, maker);
        }
        coverage();
        Due.finish();
    }

    private static String text(List<Model.Node> program) {
        List<String> words = new ArrayList<>();
        for (Model.Node node : program) {
            words.add("(" + node.kind() + ", " + node.arg() + ")");
        }
        return String.join(" ", words);
    }

    private static void compare(List<Model.Node> program, Model model, GradedUsage x, int derefLimit,
            int recordLimit, int frameLimit, Maker maker) {
        int before = Due.wrongSoFar();
        for (int k = 0; k < program.size(); k++) {
            Due.is("addNode", x.addNode(program.get(k).kind(), program.get(k).arg()), k);
        }
        Due.is("check", x.check(), model.status);
        compareCheck(program.size(), model, x, maker);
        Due.noRunResults("before the run", x);
        int outcome = model.run(derefLimit, recordLimit, frameLimit);
        for (int round = 0; round < 2; round++) {
            Due.is("run", x.run(), outcome);
            compareRun(model, x, outcome);
            x.addNode(18, 0);
        }
        compareCheck(program.size(), model, x, maker);
        STATUSES[model.status]++;
        OUTCOMES[outcome]++;
        if (Due.wrongSoFar() > before) {
            System.out.println("  with limits " + derefLimit + ", " + recordLimit + ", " + frameLimit + " in "
                + text(program));
        }
    }

    private static void compareCheck(int size, Model model, GradedUsage x, Maker maker) {
        Due.is("status", x.status(), model.status);
        Due.is("errorNode", x.errorNode(), model.errorNode);
        for (int node = -1; node <= size; node++) {
            Due.is("binderGrade(" + node + ")", x.binderGrade(node), model.binderGrade(node));
            for (int which = -1; which <= 2; which++) {
                Due.is("binderUsage(" + node + ", " + which + ")", x.binderUsage(node, which),
                    model.binderUsage(node, which));
            }
        }
        for (int k = 0; k < 12; k++) {
            int depth = maker.below(6) - (k == 0 ? 1 : 0);
            int bits = maker.below(Integer.MAX_VALUE) - maker.below(Integer.MAX_VALUE);
            Due.is("typeAt(" + depth + ", " + bits + ")", x.typeAt(depth, bits), model.typeAt(depth, bits));
        }
    }

    private static void compareRun(Model model, GradedUsage x, int outcome) {
        boolean ran = outcome != GradedUsage.OUT_NONE;
        int records = ran ? model.records() : 0;
        Due.runResults("run", x, outcome, ran ? model.valueInt : 0, records, ran ? model.derefs : 0);
        for (int k = 0; k < records; k++) {
            Due.record("run", x, k, model.recordNode(k), model.recordGrade(k), model.recordCount(k));
            // Where a pair or sum is taken apart with grade MANY the document contradicts itself on
            // records of grade ONE (README.md), so the bound is tested everywhere else.
            if (x.recordGrade(k) == GradedUsage.ZERO || !model.takesApartManyTimes()) {
                boolean bounded = x.recordGrade(k) == GradedUsage.MANY || x.recordCount(k) <= x.recordGrade(k);
                Due.is("record " + k + " is read as its grade allows", bounded ? 1 : 0, 1);
            }
        }
        Due.record("run", x, -1, -1, -1, -1);
        Due.record("run", x, records, -1, -1, -1);
    }

    /** Programs of one sort alone would show little: each status and outcome must have come up. */
    private static void coverage() {
        for (int status = GradedUsage.ST_OK; status <= GradedUsage.ST_GRADE; status++) {
            Due.is("status " + status + " came up often", STATUSES[status] >= 500 ? 1 : 0, 1);
        }
        for (int outcome = GradedUsage.OUT_NONE; outcome <= GradedUsage.OUT_FRAME_LIMIT; outcome++) {
            Due.is("outcome " + outcome + " came up often", OUTCOMES[outcome] >= 200 ? 1 : 0, 1);
        }
    }
}
