import java.util.ArrayDeque;
import java.util.ArrayList;
import java.util.Deque;
import java.util.List;

/**
 * A second reading of the document, for comparison: recursive over trees, with types and lists as Java
 * values. It checks one whole program at construction and runs it on demand.
 */
final class Model {
    /** A type; equal types are equal values. */
    record Type(int kind, int grade, Type a, Type b) {
    }

    /** A node as it was added. */
    record Node(int kind, int arg) {
    }

    private static final class Term {
        int index;
        int kind;
        int arg;
        final List<Term> children = new ArrayList<>();
        final int[] binderUsage = {-1, -1};
        int binderGrade = -1;
    }

    private static final class Fault extends RuntimeException {
        private static final long serialVersionUID = 1L;
        final int status;
        final int node;

        Fault(int status, int node) {
            super(null, null, false, false);
            this.status = status;
            this.node = node;
        }
    }

    private static final class Halt extends RuntimeException {
        private static final long serialVersionUID = 1L;
        final int outcome;

        Halt(int outcome) {
            super(null, null, false, false);
            this.outcome = outcome;
        }
    }

    /** A type with the usage of each variable seen, innermost first. */
    private record Judged(Type type, List<Integer> usage) {
    }

    private record Env(Rec head, Env tail) {
    }

    private static final class Rec {
        final Term thunk;
        final Env env;
        final Term binder;
        int count = 0;

        Rec(Term thunk, Env env, Term binder) {
            this.thunk = thunk;
            this.env = env;
            this.binder = binder;
        }
    }

    private record Frame(String kind, Term term, Env env, int number) {
    }

    private static final String[] SORTS = {null, "", "tt", "tt", "tt", "t", "", "", "ee", "te", "ee", "ee", "ee", "te",
        "te", "eee", "e", "ee"};

    private final List<Node> nodes;
    private final Term[] terms;
    private int next = 0;
    int status = GradedUsage.ST_OK;
    int errorNode = -1;
    private Type rootType;

    int outcome = GradedUsage.OUT_NONE;
    int valueInt = 0;
    int derefs = 0;
    private final List<Rec> made = new ArrayList<>();

    Model(List<Node> nodes) {
        this.nodes = nodes;
        terms = new Term[nodes.size()];
        try {
            Term root = parse('e');
            if (next < nodes.size()) {
                throw new Fault(GradedUsage.ST_SYNTAX, next);
            }
            scope(root, 0);
            rootType = judge(root, List.of()).type();
        } catch (Fault fault) {
            status = fault.status;
            errorNode = fault.node;
        }
    }

    private Term parse(char sort) {
        if (next == nodes.size()) {
            throw new Fault(GradedUsage.ST_SYNTAX, next);
        }
        Term term = new Term();
        term.index = next;
        term.kind = nodes.get(next).kind();
        term.arg = nodes.get(next).arg();
        if ((term.kind <= 5 ? 't' : 'e') != sort) {
            throw new Fault(GradedUsage.ST_SYNTAX, next);
        }
        terms[next] = term;
        next++;
        for (char childSort : SORTS[term.kind].toCharArray()) {
            term.children.add(parse(childSort));
        }
        return term;
    }

    private void scope(Term t, int seen) {
        if (t.kind == GradedUsage.VAR && t.arg >= seen) {
            throw new Fault(GradedUsage.ST_SCOPE, t.index);
        }
        for (int k = 0; k < t.children.size(); k++) {
            int bound = 0;
            if (k > 0 && t.kind == GradedUsage.LETPAIR) {
                bound = 2;
            } else if (k > 0 && (t.kind == GradedUsage.LAM || t.kind == GradedUsage.CASE
                    || t.kind == GradedUsage.LETBOX)) {
                bound = 1;
            }
            scope(t.children.get(k), seen + bound);
        }
    }

    private static Type typeOf(Term t) {
        Type a = t.children.size() > 0 ? typeOf(t.children.get(0)) : null;
        Type b = t.children.size() > 1 ? typeOf(t.children.get(1)) : null;
        boolean graded = t.kind == GradedUsage.T_FUN || t.kind == GradedUsage.T_BOX;
        return new Type(t.kind, graded ? t.arg : 0, a, b);
    }

    private static final int[][] SUM = {{0, 1, 2}, {1, 2, 2}, {2, 2, 2}};
    private static final int[][] PRODUCT = {{0, 0, 0}, {0, 1, 2}, {0, 2, 2}};

    private static List<Integer> sum(List<Integer> a, List<Integer> b) {
        List<Integer> result = new ArrayList<>();
        for (int k = 0; k < a.size(); k++) {
            result.add(SUM[a.get(k)][b.get(k)]);
        }
        return result;
    }

    private static List<Integer> join(List<Integer> a, List<Integer> b) {
        List<Integer> result = new ArrayList<>();
        for (int k = 0; k < a.size(); k++) {
            result.add(Math.max(a.get(k), b.get(k)));
        }
        return result;
    }

    private static List<Integer> scale(int grade, List<Integer> a) {
        List<Integer> result = new ArrayList<>();
        for (int one : a) {
            result.add(PRODUCT[grade][one]);
        }
        return result;
    }

    private static List<Integer> without(int variables, List<Integer> a) {
        return a.subList(variables, a.size());
    }

    private static List<Type> under(List<Type> context, Type... innermostFirst) {
        List<Type> result = new ArrayList<>(List.of(innermostFirst));
        result.addAll(context);
        return result;
    }

    private static void need(boolean holds, int status, Term t) {
        if (!holds) {
            throw new Fault(status, t.index);
        }
    }

    private static final Type INT = new Type(GradedUsage.T_INT, 0, null, null);

    private static void settle(Term t, int... usages) {
        int most = 0;
        for (int k = 0; k < usages.length; k++) {
            t.binderUsage[k] = usages[k];
            most = Math.max(most, usages[k]);
        }
        if (t.arg == GradedUsage.INFER) {
            t.binderGrade = most;
        } else {
            need(most <= t.arg, GradedUsage.ST_GRADE, t);
            t.binderGrade = t.arg;
        }
    }

    private Judged judge(Term t, List<Type> context) {
        switch (t.kind) {
            case GradedUsage.VAR: {
                List<Integer> usage = new ArrayList<>();
                for (int k = 0; k < context.size(); k++) {
                    usage.add(k == t.arg ? 1 : 0);
                }
                return new Judged(context.get(t.arg), usage);
            }
            case GradedUsage.LIT: {
                List<Integer> usage = new ArrayList<>();
                for (int k = 0; k < context.size(); k++) {
                    usage.add(0);
                }
                return new Judged(INT, usage);
            }
            case GradedUsage.ADD: {
                Judged a = judge(t.children.get(0), context);
                Judged b = judge(t.children.get(1), context);
                need(a.type().equals(INT) && b.type().equals(INT), GradedUsage.ST_TYPE, t);
                return new Judged(INT, sum(a.usage(), b.usage()));
            }
            case GradedUsage.LAM: {
                Type a = typeOf(t.children.get(0));
                Judged e = judge(t.children.get(1), under(context, a));
                settle(t, e.usage().get(0));
                return new Judged(new Type(GradedUsage.T_FUN, t.binderGrade, a, e.type()), without(1, e.usage()));
            }
            case GradedUsage.APP: {
                Judged f = judge(t.children.get(0), context);
                Judged a = judge(t.children.get(1), context);
                need(f.type().kind() == GradedUsage.T_FUN && f.type().a().equals(a.type()), GradedUsage.ST_TYPE, t);
                return new Judged(f.type().b(), sum(f.usage(), scale(f.type().grade(), a.usage())));
            }
            case GradedUsage.PAIR: {
                Judged a = judge(t.children.get(0), context);
                Judged b = judge(t.children.get(1), context);
                return new Judged(new Type(GradedUsage.T_PAIR, 0, a.type(), b.type()), sum(a.usage(), b.usage()));
            }
            case GradedUsage.INL: {
                Judged e = judge(t.children.get(1), context);
                return new Judged(new Type(GradedUsage.T_SUM, 0, e.type(), typeOf(t.children.get(0))), e.usage());
            }
            case GradedUsage.INR: {
                Judged e = judge(t.children.get(1), context);
                return new Judged(new Type(GradedUsage.T_SUM, 0, typeOf(t.children.get(0)), e.type()), e.usage());
            }
            case GradedUsage.BOX: {
                Judged e = judge(t.children.get(0), context);
                return new Judged(new Type(GradedUsage.T_BOX, t.arg, e.type(), null), scale(t.arg, e.usage()));
            }
            default:
                return judgeElimination(t, context);
        }
    }

    private Judged judgeElimination(Term t, List<Type> context) {
        Judged first = judge(t.children.get(0), context);
        if (t.kind == GradedUsage.LETPAIR) {
            need(first.type().kind() == GradedUsage.T_PAIR, GradedUsage.ST_TYPE, t);
            Judged e = judge(t.children.get(1), under(context, first.type().b(), first.type().a()));
            settle(t, e.usage().get(1), e.usage().get(0));
            int h = Math.max(t.binderGrade, 1);
            return new Judged(e.type(), sum(scale(h, first.usage()), without(2, e.usage())));
        }
        if (t.kind == GradedUsage.CASE) {
            need(first.type().kind() == GradedUsage.T_SUM, GradedUsage.ST_TYPE, t);
            Judged l = judge(t.children.get(1), under(context, first.type().a()));
            Judged r = judge(t.children.get(2), under(context, first.type().b()));
            need(l.type().equals(r.type()), GradedUsage.ST_TYPE, t);
            settle(t, l.usage().get(0), r.usage().get(0));
            int h = Math.max(t.binderGrade, 1);
            List<Integer> branches = join(without(1, l.usage()), without(1, r.usage()));
            return new Judged(l.type(), sum(scale(h, first.usage()), branches));
        }
        need(first.type().kind() == GradedUsage.T_BOX, GradedUsage.ST_TYPE, t);
        Judged e = judge(t.children.get(1), under(context, first.type().a()));
        t.binderUsage[0] = e.usage().get(0);
        t.binderGrade = first.type().grade();
        need(t.binderUsage[0] <= t.binderGrade, GradedUsage.ST_GRADE, t);
        return new Judged(e.type(), sum(first.usage(), without(1, e.usage())));
    }

    int binderGrade(int node) {
        boolean there = status == GradedUsage.ST_OK && node >= 0 && node < terms.length;
        return there ? terms[node].binderGrade : -1;
    }

    int binderUsage(int node, int which) {
        boolean there = status == GradedUsage.ST_OK && node >= 0 && node < terms.length && (which == 0 || which == 1);
        return there ? terms[node].binderUsage[which] : -1;
    }

    /** Whether a LETPAIR or CASE of the accepted program has the binder grade MANY. */
    boolean takesApartManyTimes() {
        for (Term t : terms) {
            if ((t.kind == GradedUsage.LETPAIR || t.kind == GradedUsage.CASE) && t.binderGrade == GradedUsage.MANY) {
                return true;
            }
        }
        return false;
    }

    int typeAt(int depth, int bits) {
        if (status != GradedUsage.ST_OK || depth < 0 || depth > 30) {
            return -1;
        }
        Type type = rootType;
        int rest = bits;
        for (int j = 0; j < depth; j++) {
            type = rest % 2 == 0 ? type.a() : type.b();
            if (type == null) {
                return -1;
            }
            rest >>= 1;
        }
        return type.kind() * 4 + type.grade();
    }

    int run(int derefLimit, int recordLimit, int frameLimit) {
        if (status != GradedUsage.ST_OK) {
            return GradedUsage.OUT_NONE;
        }
        made.clear();
        derefs = 0;
        valueInt = 0;
        try {
            machine(derefLimit, recordLimit, frameLimit);
        } catch (Halt halt) {
            outcome = halt.outcome;
        }
        return outcome;
    }

    private Env bind(Term thunk, Env thunkEnv, Term binder, Env rest, int recordLimit) {
        if (made.size() == recordLimit) {
            throw new Halt(GradedUsage.OUT_RECORD_LIMIT);
        }
        Rec rec = new Rec(thunk, thunkEnv, binder);
        made.add(rec);
        return new Env(rec, rest);
    }

    private void machine(int derefLimit, int recordLimit, int frameLimit) {
        Term t = terms[0];
        Env env = null;
        Deque<Frame> stack = new ArrayDeque<>();
        while (true) {
            String waits = null;
            Integer number = null;
            switch (t.kind) {
                case GradedUsage.VAR: {
                    if (derefs == derefLimit) {
                        throw new Halt(GradedUsage.OUT_DEREF_LIMIT);
                    }
                    Env at = env;
                    for (int k = 0; k < t.arg; k++) {
                        at = at.tail();
                    }
                    at.head().count++;
                    derefs++;
                    t = at.head().thunk;
                    env = at.head().env;
                    continue;
                }
                case GradedUsage.ADD:
                    waits = "ADDL";
                    break;
                case GradedUsage.APP:
                    waits = "ARG";
                    break;
                case GradedUsage.LETPAIR:
                    waits = "LP";
                    break;
                case GradedUsage.CASE:
                    waits = "CS";
                    break;
                case GradedUsage.LETBOX:
                    waits = "LB";
                    break;
                case GradedUsage.LIT:
                    number = t.arg;
                    break;
                default:
                    break;
            }
            if (waits != null) {
                if (stack.size() == frameLimit) {
                    throw new Halt(GradedUsage.OUT_FRAME_LIMIT);
                }
                stack.push(new Frame(waits, t, env, 0));
                t = t.children.get(0);
                continue;
            }
            while (!stack.isEmpty() && stack.peek().kind().equals("ADDR")) {
                number = stack.pop().number() + number;
            }
            if (stack.isEmpty()) {
                finish(t, number);
            }
            Frame frame = stack.pop();
            Term w = frame.term();
            switch (frame.kind()) {
                case "ADDL":
                    stack.push(new Frame("ADDR", null, null, number));
                    t = w.children.get(1);
                    env = frame.env();
                    break;
                case "ARG":
                    env = bind(w.children.get(1), frame.env(), t, env, recordLimit);
                    t = t.children.get(1);
                    break;
                case "LP": {
                    Env x = bind(t.children.get(0), env, w, frame.env(), recordLimit);
                    env = bind(t.children.get(1), env, w, x, recordLimit);
                    t = w.children.get(1);
                    break;
                }
                case "CS":
                    env = bind(t.children.get(1), env, w, frame.env(), recordLimit);
                    t = w.children.get(t.kind == GradedUsage.INL ? 1 : 2);
                    break;
                default:
                    env = bind(t.children.get(0), env, w, frame.env(), recordLimit);
                    t = w.children.get(1);
                    break;
            }
        }
    }

    private void finish(Term t, Integer number) {
        if (number != null) {
            valueInt = number;
            throw new Halt(GradedUsage.OUT_INT);
        }
        switch (t.kind) {
            case GradedUsage.LAM:
                throw new Halt(GradedUsage.OUT_FUN);
            case GradedUsage.PAIR:
                throw new Halt(GradedUsage.OUT_PAIR);
            case GradedUsage.INL:
                throw new Halt(GradedUsage.OUT_INL);
            case GradedUsage.INR:
                throw new Halt(GradedUsage.OUT_INR);
            default:
                throw new Halt(GradedUsage.OUT_BOX);
        }
    }

    int records() {
        return made.size();
    }

    int recordNode(int k) {
        return made.get(k).binder.index;
    }

    int recordGrade(int k) {
        return made.get(k).binder.binderGrade;
    }

    int recordCount(int k) {
        return made.get(k).count;
    }
}
