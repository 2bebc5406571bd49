import java.lang.reflect.Constructor;
import java.lang.reflect.Field;
import java.lang.reflect.Method;
import java.lang.reflect.Modifier;
import java.util.Arrays;
import java.util.Set;
import java.util.TreeSet;

/** The class has the members of the document's public face, and no others that can be seen from outside. */
public final class FaceTest {
    private static final String[] METHODS = {"void reset()", "int addNode(int, int)", "int check()", "int status()",
        "int errorNode()", "int binderGrade(int)", "int binderUsage(int, int)", "int typeAt(int, int)", "int run()",
        "int outcome()", "int valueInt()", "int records()", "int recordNode(int)", "int recordGrade(int)",
        "int recordCount(int)", "int derefs()"};
    private static final String[] CONSTANTS = {"ZERO=0", "ONE=1", "MANY=2", "INFER=3", "T_INT=1", "T_PAIR=2",
        "T_SUM=3", "T_FUN=4", "T_BOX=5", "VAR=6", "LIT=7", "ADD=8", "LAM=9", "APP=10", "PAIR=11", "LETPAIR=12",
        "INL=13", "INR=14", "CASE=15", "BOX=16", "LETBOX=17", "ST_UNCHECKED=0", "ST_OK=1", "ST_SYNTAX=2",
        "ST_SCOPE=3", "ST_TYPE=4", "ST_GRADE=5", "OUT_NONE=0", "OUT_INT=1", "OUT_FUN=2", "OUT_PAIR=3", "OUT_INL=4",
        "OUT_INR=5", "OUT_BOX=6", "OUT_DEREF_LIMIT=7", "OUT_RECORD_LIMIT=8", "OUT_FRAME_LIMIT=9", "MAX_NODES=32"};

    public static void main(String[] args) throws ReflectiveOperationException {
        Class<?> face = GradedUsage.class;
        Due.is("the class is public and final", face.getModifiers(), Modifier.PUBLIC | Modifier.FINAL);
        Due.is("nested classes", face.getDeclaredClasses().length, 0);
        Due.is("interfaces", face.getInterfaces().length, 0);
        same("methods", methods(face), METHODS);
        same("constants", constants(face), CONSTANTS);
        constructors(face);
        Due.finish();
    }

    private static String parameters(Class<?>[] types) {
        StringBuilder text = new StringBuilder();
        for (Class<?> type : types) {
            text.append(text.length() == 0 ? "" : ", ").append(type.getName());
        }
        return "(" + text + ")";
    }

    private static Set<String> methods(Class<?> face) {
        Set<String> seen = new TreeSet<>();
        for (Method method : face.getDeclaredMethods()) {
            if (!Modifier.isPrivate(method.getModifiers())) {
                boolean plain = method.getModifiers() == Modifier.PUBLIC;
                seen.add((plain ? "" : "not plainly public: ") + method.getReturnType().getName() + " "
                    + method.getName() + parameters(method.getParameterTypes()));
            }
        }
        return seen;
    }

    private static Set<String> constants(Class<?> face) throws ReflectiveOperationException {
        Set<String> seen = new TreeSet<>();
        for (Field field : face.getDeclaredFields()) {
            int modifiers = field.getModifiers();
            if (!Modifier.isPrivate(modifiers)) {
                boolean constant = modifiers == (Modifier.PUBLIC | Modifier.STATIC | Modifier.FINAL)
                    && field.getType() == int.class;
                seen.add(constant ? field.getName() + "=" + field.getInt(null) : "no constant: " + field.getName());
            }
        }
        return seen;
    }

    private static void constructors(Class<?> face) {
        Constructor<?>[] all = face.getDeclaredConstructors();
        Due.is("constructors", all.length, 1);
        Due.is("the constructor is public", all[0].getModifiers(), Modifier.PUBLIC);
        boolean threeInts = parameters(all[0].getParameterTypes()).equals("(int, int, int)");
        Due.is("the constructor takes three ints", threeInts ? 1 : 0, 1);
    }

    private static void same(String what, Set<String> seen, String[] due) {
        Set<String> missing = new TreeSet<>(Arrays.asList(due));
        missing.removeAll(seen);
        Set<String> extra = new TreeSet<>(seen);
        extra.removeAll(Arrays.asList(due));
        if (!missing.isEmpty() || !extra.isEmpty()) {
            System.out.println(what + " missing: " + missing + ", too many: " + extra);
        }
        Due.is(what + " missing", missing.size(), 0);
        Due.is(what + " too many", extra.size(), 0);
    }
}
