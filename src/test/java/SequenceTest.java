import java.util.ArrayList;
import java.util.List;

/** Calls in any order: after each, every answer is what the calls so far have left (promises 1 to 9). */
public final class SequenceTest {
    private static final int OBJECTS = 3000;
    private static final int CALLS = 40;
    private static final int[] ODD = {Integer.MIN_VALUE, -65, -33, -2, -1, 0, 1, 2, 3, 4, 15, 16, 17, 18, 30, 31, 32,
        33, 63, 64, 65, Integer.MAX_VALUE};

    private final Maker maker;
    private final int[] limits;
    private final GradedUsage x;
    private final List<Model.Node> nodes = new ArrayList<>();
    private final StringBuilder calls = new StringBuilder();
    private Model checked = null;
    private boolean ran = false;

    private SequenceTest(Maker maker) {
        this.maker = maker;
        int[] given = {limit(64), limit(32), limit(64)};
        limits = new int[] {clamp(given[0], 64), clamp(given[1], 32), clamp(given[2], 64)};
        calls.append("new ").append(given[0]).append(' ').append(given[1]).append(' ').append(given[2]);
        x = new GradedUsage(given[0], given[1], given[2]);
    }

    public static void main(String[] args) {
        Maker maker = new Maker(5L);
        for (int k = 0; k < OBJECTS && Due.wrongSoFar() < 5; k++) {
            SequenceTest test = new SequenceTest(maker);
            test.compare();
            for (int call = 0; call < CALLS; call++) {
                test.call();
                test.compare();
            }
            if (Due.wrongSoFar() > 0) {
                System.out.println("  after " + test.calls);
            }
        }
        Due.finish();
    }

    private int limit(int greatest) {
        return maker.below(3) == 0 ? odd() : 1 + maker.below(greatest);
    }

    private static int clamp(int limit, int greatest) {
        return Math.max(1, Math.min(greatest, limit));
    }

    private int odd() {
        return ODD[maker.below(ODD.length)];
    }

    private void call() {
        switch (maker.below(12)) {
            case 0:
                reset();
                break;
            case 1:
                add(odd(), odd());
                break;
            case 2:
                add(1 + maker.below(17), odd());
                break;
            case 3:
            case 4:
            case 5:
                check();
                break;
            case 6:
            case 7:
            case 8:
                run();
                break;
            default:
                reset();
                addPlanned();
                break;
        }
    }

    private void reset() {
        calls.append(", reset");
        x.reset();
        nodes.clear();
        checked = null;
        ran = false;
    }

    /** A whole program: one node at a time would seldom make a sound one. */
    private void addPlanned() {
        for (Model.Node node : maker.program()) {
            add(node.kind(), node.arg());
        }
        check();
    }

    private void add(int kind, int arg) {
        calls.append(", add ").append(kind).append(' ').append(arg);
        boolean taken = kind >= 1 && kind <= 17 && Samples.fits(kind, arg) && nodes.size() < 32;
        Due.is("addNode", x.addNode(kind, arg), taken ? nodes.size() : -1);
        if (taken) {
            nodes.add(new Model.Node(kind, Samples.kept(kind, arg)));
            checked = null;
            ran = false;
        }
    }

    private void check() {
        calls.append(", check");
        checked = new Model(new ArrayList<>(nodes));
        ran = false;
        Due.is("check", x.check(), checked.status);
    }

    private void run() {
        calls.append(", run");
        int due = GradedUsage.OUT_NONE;
        if (checked != null && checked.status == GradedUsage.ST_OK) {
            due = checked.run(limits[0], limits[1], limits[2]);
            ran = true;
        }
        Due.is("run", x.run(), due);
    }

    private void compare() {
        Due.is("status", x.status(), checked == null ? GradedUsage.ST_UNCHECKED : checked.status);
        Due.is("errorNode", x.errorNode(), checked == null ? -1 : checked.errorNode);
        for (int node = -1; node <= 32; node++) {
            Due.is("binderGrade(" + node + ")", x.binderGrade(node), checked == null ? -1 : checked.binderGrade(node));
            for (int which = -1; which <= 2; which++) {
                Due.is("binderUsage(" + node + ", " + which + ")", x.binderUsage(node, which),
                    checked == null ? -1 : checked.binderUsage(node, which));
            }
        }
        for (int k = 0; k < 4; k++) {
            int depth = k < 2 ? maker.below(4) : odd();
            int bits = k % 2 == 0 ? maker.below(16) : odd();
            Due.is("typeAt(" + depth + ", " + bits + ")", x.typeAt(depth, bits),
                checked == null ? -1 : checked.typeAt(depth, bits));
        }
        compareRun();
    }

    private void compareRun() {
        int records = ran ? checked.records() : 0;
        Due.runResults("run results", x, ran ? checked.outcome : GradedUsage.OUT_NONE, ran ? checked.valueInt : 0,
            records, ran ? checked.derefs : 0);
        for (int k = -1; k <= 32; k++) {
            boolean there = k >= 0 && k < records;
            Due.record("run results", x, k, there ? checked.recordNode(k) : -1, there ? checked.recordGrade(k) : -1,
                there ? checked.recordCount(k) : -1);
        }
        int wrong = odd();
        boolean there = wrong >= 0 && wrong < records;
        Due.record("run results", x, wrong, there ? checked.recordNode(wrong) : -1,
            there ? checked.recordGrade(wrong) : -1, there ? checked.recordCount(wrong) : -1);
    }
}
