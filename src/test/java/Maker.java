import java.util.ArrayList;
import java.util.List;

/** Makes programs that are mostly well typed, from a fixed sequence of numbers: the same ones every time. */
final class Maker {
    private static final Model.Type INT = new Model.Type(GradedUsage.T_INT, 0, null, null);

    private long state;
    private List<Model.Node> nodes;

    Maker(long seed) {
        state = seed;
    }

    int below(int bound) {
        state = state * 6364136223846793005L + 1442695040888963407L;
        return (int) ((state >>> 33) % bound);
    }

    private boolean chance(int percent) {
        return below(100) < percent;
    }

    /** A program of at most MAX_NODES nodes, with a fault put in now and then. */
    List<Model.Node> program() {
        do {
            nodes = new ArrayList<>();
            term(type(below(4)), List.of(), 6 + below(90));
        } while (nodes.size() > GradedUsage.MAX_NODES);
        int faults = chance(70) ? 0 : 1 + below(2);
        for (int k = 0; k < faults; k++) {
            spoil();
        }
        return nodes;
    }

    private void spoil() {
        int at = below(nodes.size());
        Model.Node old = nodes.get(at);
        switch (below(5)) {
            case 0:
                nodes.set(at, node(1 + below(17), below(3)));
                break;
            case 1:
                if (nodes.size() > 1) {
                    nodes.remove(at);
                }
                break;
            case 2:
                if (nodes.size() < GradedUsage.MAX_NODES) {
                    nodes.add(at, node(1 + below(17), below(3)));
                }
                break;
            default:
                nodes.set(at, node(old.kind(), below(old.kind() == GradedUsage.VAR ? 5 : 3)));
                break;
        }
    }

    private static Model.Node node(int kind, int arg) {
        return new Model.Node(kind, arg);
    }

    private void add(int kind, int arg) {
        nodes.add(node(kind, arg));
    }

    private Model.Type type(int size) {
        if (size <= 0 || chance(45)) {
            return INT;
        }
        int kind = 2 + below(4);
        boolean graded = kind == GradedUsage.T_FUN || kind == GradedUsage.T_BOX;
        Model.Type a = type(size - 1);
        Model.Type b = kind == GradedUsage.T_BOX ? null : type(size - 2);
        return new Model.Type(kind, graded ? grade() : 0, a, b);
    }

    private int grade() {
        return chance(60) ? GradedUsage.MANY : below(3);
    }

    private int gradeOrInfer() {
        return chance(60) ? GradedUsage.INFER : grade();
    }

    private void addType(Model.Type type) {
        add(type.kind(), type.grade());
        if (type.a() != null) {
            addType(type.a());
        }
        if (type.b() != null) {
            addType(type.b());
        }
    }

    private static List<Model.Type> under(List<Model.Type> context, Model.Type... innermostFirst) {
        List<Model.Type> result = new ArrayList<>(List.of(innermostFirst));
        result.addAll(context);
        return result;
    }

    private void term(Model.Type goal, List<Model.Type> context, int budget) {
        if (nodes.size() > GradedUsage.MAX_NODES) {
            return;
        }
        if (chance(budget < 5 ? 85 : 25) && variable(goal, context)) {
            return;
        }
        if (budget < 4 || chance(35)) {
            value(goal, context, budget - 1);
        } else {
            elimination(goal, context, budget - 1);
        }
    }

    private boolean variable(Model.Type goal, List<Model.Type> context) {
        List<Integer> fitting = new ArrayList<>();
        for (int k = 0; k < context.size(); k++) {
            if (context.get(k).equals(goal)) {
                fitting.add(k);
            }
        }
        if (fitting.isEmpty()) {
            return false;
        }
        add(GradedUsage.VAR, fitting.get(below(fitting.size())));
        return true;
    }

    private void value(Model.Type goal, List<Model.Type> context, int budget) {
        switch (goal.kind()) {
            case GradedUsage.T_PAIR:
                add(GradedUsage.PAIR, 0);
                term(goal.a(), context, budget / 2);
                term(goal.b(), context, budget / 2);
                break;
            case GradedUsage.T_SUM: {
                boolean left = chance(50);
                add(left ? GradedUsage.INL : GradedUsage.INR, 0);
                addType(left ? goal.b() : goal.a());
                term(left ? goal.a() : goal.b(), context, budget - 1);
                break;
            }
            case GradedUsage.T_FUN:
                add(GradedUsage.LAM, goal.grade());
                addType(goal.a());
                term(goal.b(), under(context, goal.a()), budget - 1);
                break;
            case GradedUsage.T_BOX:
                add(GradedUsage.BOX, goal.grade());
                term(goal.a(), context, budget);
                break;
            default:
                if (budget > 2 && chance(80)) {
                    add(GradedUsage.ADD, 0);
                    term(INT, context, budget / 2);
                    term(INT, context, budget / 2);
                } else {
                    add(GradedUsage.LIT, chance(20) ? Integer.MAX_VALUE - below(3) : below(10));
                }
                break;
        }
    }

    private void elimination(Model.Type goal, List<Model.Type> context, int budget) {
        Model.Type a = type(2);
        Model.Type b = type(2);
        int half = budget / 2;
        switch (below(5)) {
            case 0:
                add(GradedUsage.APP, 0);
                if (chance(50)) {
                    add(GradedUsage.LAM, gradeOrInfer());
                    addType(a);
                    term(goal, under(context, a), half);
                } else {
                    term(new Model.Type(GradedUsage.T_FUN, grade(), a, goal), context, half);
                }
                term(a, context, half);
                break;
            case 1:
                add(GradedUsage.LETPAIR, gradeOrInfer());
                term(new Model.Type(GradedUsage.T_PAIR, 0, a, b), context, half);
                term(goal, under(context, b, a), half);
                break;
            case 2:
                add(GradedUsage.CASE, gradeOrInfer());
                term(new Model.Type(GradedUsage.T_SUM, 0, a, b), context, budget / 3);
                term(goal, under(context, a), budget / 3);
                term(goal, under(context, b), budget / 3);
                break;
            default:
                add(GradedUsage.LETBOX, 0);
                term(new Model.Type(GradedUsage.T_BOX, grade(), a, null), context, half);
                term(goal, under(context, a), half + 1);
                break;
        }
    }
}
