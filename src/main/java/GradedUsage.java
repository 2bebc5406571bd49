/**
 * Holds, checks and runs one program of a small lambda calculus whose binders carry usage grades.
 * README.md says how to use it; the numbered promises it keeps are in the project's document.
 */
public final class GradedUsage {
    public static final int ZERO = 0, ONE = 1, MANY = 2, INFER = 3;
    public static final int T_INT = 1, T_PAIR = 2, T_SUM = 3, T_FUN = 4, T_BOX = 5;
    public static final int VAR = 6, LIT = 7, ADD = 8, LAM = 9, APP = 10, PAIR = 11;
    public static final int LETPAIR = 12, INL = 13, INR = 14, CASE = 15, BOX = 16, LETBOX = 17;
    public static final int ST_UNCHECKED = 0, ST_OK = 1, ST_SYNTAX = 2, ST_SCOPE = 3, ST_TYPE = 4, ST_GRADE = 5;
    public static final int OUT_NONE = 0, OUT_INT = 1, OUT_FUN = 2, OUT_PAIR = 3, OUT_INL = 4, OUT_INR = 5, OUT_BOX = 6;
    public static final int OUT_DEREF_LIMIT = 7, OUT_RECORD_LIMIT = 8, OUT_FRAME_LIMIT = 9;
    public static final int MAX_NODES = 32;

    private static final int REFUSED = -1;
    private static final int NO_NODE = -1;

    private static final int MAX_DEREFS = 64;
    private static final int MAX_RECORDS = 32;
    private static final int MAX_FRAMES = 64;
    private static final int MAX_STEPS = 20000;
    private static final int MAX_TYPE_DEPTH = 30;
    private static final int MAX_INDEX = 31;

    // A place is where a subtree may hang: parent * MAX_CHILDREN + slot, or ROOT_PLACE.
    private static final int MAX_CHILDREN = 3;
    private static final int ROOT_PLACE = MAX_NODES * MAX_CHILDREN;
    private static final int PLACES = ROOT_PLACE + 1;

    // Each node takes one expected place and adds at most three.
    private static final int MAX_EXPECTED = 2 * MAX_NODES + 1;

    // Every variable costs the program at least one node beside the term that sees it
    // (LETPAIR binds two, but has a first child too), so a node sees fewer than MAX_NODES.
    private static final int MAX_VARIABLES = MAX_NODES;
    private static final int USAGE_CELLS = MAX_NODES * MAX_VARIABLES;

    // An environment is named by its first record: EMPTY, or k + 1 for record k. The records'
    // arrays are indexed by that name, so that every environment is an index that exists.
    private static final int EMPTY = 0;
    private static final int ENVIRONMENTS = MAX_RECORDS + 1;

    // A frame is marked by the kind of the term that waits in it; the frame that waits with the
    // left number of a sum has no such term, hence a mark that is no kind.
    private static final int ADDR_FRAME = 0;

    private final int derefLimit;
    private final int recordLimit;
    private final int frameLimit;

    // The program.
    private int nodeCount = 0;
    private final int[] nodeKind = new int[MAX_NODES];
    private final int[] nodeArg = new int[MAX_NODES];

    // What the check found out.
    private int currentStatus = ST_UNCHECKED;
    private int faultNode = NO_NODE;
    private final int[] expectedPlaces = new int[MAX_EXPECTED];
    private final int[] nodeAtPlace = new int[PLACES];
    private final int[] placeOfNode = new int[MAX_NODES];
    private final int[] variablesSeen = new int[MAX_NODES];
    private final int[] nodeType = new int[MAX_NODES];
    private final int[] gradeOfBinder = new int[MAX_NODES];

    // Variables are kept by level (0 = outermost), so that a list without the variables that a
    // child binds is the start of the child's list.
    private final int[] variableType = new int[MAX_VARIABLES];
    private final int[] usage = new int[USAGE_CELLS];

    // Types share their parts and no two are equal, so equal types are equal numbers and the table
    // stays small however large a type is when written out. A node adds at most one.
    private int typeCount = 0;
    private final int[] typeKind = new int[MAX_NODES];
    private final int[] typeGrade = new int[MAX_NODES];
    private final int[] typeLeft = new int[MAX_NODES];
    private final int[] typeRight = new int[MAX_NODES];

    // The machine.
    private int currentNode = 0;
    private int currentEnv = EMPTY;
    private boolean returning = false;
    private int returnedNumber = 0;
    private int frameCount = 0;
    private final int[] frameMark = new int[MAX_FRAMES];
    private final int[] frameWord = new int[MAX_FRAMES];
    private final int[] frameEnv = new int[MAX_FRAMES];

    // The run results.
    private int lastOutcome = OUT_NONE;
    private int lastValue = 0;
    private int derefsMade = 0;
    private int recordsMade = 0;
    private final int[] thunkNode = new int[ENVIRONMENTS];
    private final int[] thunkEnv = new int[ENVIRONMENTS];
    private final int[] restOfEnv = new int[ENVIRONMENTS];
    private final int[] binderOfRecord = new int[ENVIRONMENTS];
    private final int[] gradeOfRecord = new int[ENVIRONMENTS];
    private final int[] countOfRecord = new int[ENVIRONMENTS];

    public GradedUsage(int derefLimit, int recordLimit, int frameLimit) {
        this.derefLimit = clamp(derefLimit, MAX_DEREFS);
        this.recordLimit = clamp(recordLimit, MAX_RECORDS);
        this.frameLimit = clamp(frameLimit, MAX_FRAMES);
    }

    public void reset() {
        nodeCount = 0;
        forgetCheck();
    }

    public int addNode(int kind, int arg) {
        if (kind < T_INT || kind > LETBOX || !argumentFits(kind, arg) || nodeCount == MAX_NODES) {
            return REFUSED;
        }
        int node = nodeCount;
        nodeKind[node] = kind;
        nodeArg[node] = ignoresArgument(kind) ? 0 : arg;
        nodeCount++;
        forgetCheck();
        return node;
    }

    public int check() {
        clearRunResults();
        currentStatus = ST_OK;
        faultNode = NO_NODE;
        checkSyntax();
        if (currentStatus == ST_OK) {
            checkScope();
        }
        if (currentStatus == ST_OK) {
            checkTypesAndGrades();
        }
        return currentStatus;
    }

    public int status() {
        return currentStatus;
    }

    public int errorNode() {
        return faultNode;
    }

    public int binderGrade(int node) {
        return isCheckedBinder(node) ? gradeOfBinder[node] : REFUSED;
    }

    public int binderUsage(int node, int which) {
        if (!isCheckedBinder(node)) {
            return REFUSED;
        }
        if (which == 0) {
            return usageOfX(node);
        }
        boolean bindsY = nodeKind[node] == LETPAIR || nodeKind[node] == CASE;
        return which == 1 && bindsY ? usageOfY(node) : REFUSED;
    }

    public int typeAt(int depth, int bits) {
        if (currentStatus != ST_OK || depth < 0 || depth > MAX_TYPE_DEPTH) {
            return REFUSED;
        }
        int type = nodeType[0];
        for (int step = 0; step < depth; step++) {
            boolean goesRight = ((bits >> step) & 1) == 1;
            if (typeKind[type] == T_INT || (typeKind[type] == T_BOX && goesRight)) {
                return REFUSED;
            }
            type = goesRight ? typeRight[type] : typeLeft[type];
        }
        return typeKind[type] * 4 + typeGrade[type];
    }

    public int run() {
        if (currentStatus != ST_OK) {
            return OUT_NONE;
        }
        clearRunResults();
        frameCount = 0;
        enter(0, EMPTY);
        for (int step = 0; step < MAX_STEPS && lastOutcome == OUT_NONE; step++) {
            if (returning) {
                returnValue();
            } else {
                evaluate();
            }
        }
        return lastOutcome;
    }

    public int outcome() {
        return lastOutcome;
    }

    public int valueInt() {
        return lastValue;
    }

    public int records() {
        return recordsMade;
    }

    public int recordNode(int k) {
        return isRecord(k) ? binderOfRecord[k + 1] : REFUSED;
    }

    public int recordGrade(int k) {
        return isRecord(k) ? gradeOfRecord[k + 1] : REFUSED;
    }

    public int recordCount(int k) {
        return isRecord(k) ? countOfRecord[k + 1] : REFUSED;
    }

    public int derefs() {
        return derefsMade;
    }

    private static int clamp(int limit, int greatest) {
        if (limit < 1) {
            return 1;
        }
        return limit > greatest ? greatest : limit;
    }

    private void forgetCheck() {
        currentStatus = ST_UNCHECKED;
        faultNode = NO_NODE;
        clearRunResults();
    }

    private void clearRunResults() {
        lastOutcome = OUT_NONE;
        lastValue = 0;
        recordsMade = 0;
        derefsMade = 0;
    }

    private boolean isCheckedBinder(int node) {
        if (currentStatus != ST_OK || node < 0 || node >= nodeCount) {
            return false;
        }
        int kind = nodeKind[node];
        return kind == LAM || kind == LETPAIR || kind == CASE || kind == LETBOX;
    }

    private boolean isRecord(int k) {
        return k >= 0 && k < recordsMade;
    }

    // The node table.

    private static boolean argumentFits(int kind, int arg) {
        switch (kind) {
            case T_FUN:
            case T_BOX:
            case BOX:
                return arg >= ZERO && arg <= MANY;
            case LAM:
            case LETPAIR:
            case CASE:
                return arg >= ZERO && arg <= INFER;
            case VAR:
                return arg >= 0 && arg <= MAX_INDEX;
            default:
                return true;
        }
    }

    private static boolean ignoresArgument(int kind) {
        switch (kind) {
            case T_FUN:
            case T_BOX:
            case VAR:
            case LIT:
            case LAM:
            case LETPAIR:
            case CASE:
            case BOX:
                return false;
            default:
                return true;
        }
    }

    private static boolean isTypeKind(int kind) {
        return kind <= T_BOX;
    }

    private static int childCount(int kind) {
        switch (kind) {
            case T_INT:
            case VAR:
            case LIT:
                return 0;
            case T_BOX:
            case BOX:
                return 1;
            case CASE:
                return 3;
            default:
                return 2;
        }
    }

    private static boolean wantsType(int parentKind, int slot) {
        boolean startsWithType = parentKind == LAM || parentKind == INL || parentKind == INR;
        return isTypeKind(parentKind) || (startsWithType && slot == 0);
    }

    private static int variablesBound(int parentKind, int slot) {
        if (slot == 0) {
            return 0;
        }
        switch (parentKind) {
            case LETPAIR:
                return 2;
            case LAM:
            case CASE:
            case LETBOX:
                return 1;
            default:
                return 0;
        }
    }

    private int childOf(int node, int slot) {
        return nodeAtPlace[node * MAX_CHILDREN + slot];
    }

    private int typeOfChild(int node, int slot) {
        int child = childOf(node, slot);
        return nodeType[child];
    }

    // Syntax and scope.

    private void fail(int failedStatus, int node) {
        currentStatus = failedStatus;
        faultNode = node;
    }

    private void checkSyntax() {
        expectedPlaces[0] = ROOT_PLACE;
        int expected = 1;
        for (int node = 0; node < nodeCount; node++) {
            if (expected == 0 || !sortFits(node, expectedPlaces[expected - 1])) {
                fail(ST_SYNTAX, node);
                return;
            }
            expected--;
            hang(node, expectedPlaces[expected]);
            // The list's first entry is kept at the array's end, so children go in backwards.
            for (int slot = childCount(nodeKind[node]) - 1; slot >= 0; slot--) {
                expectedPlaces[expected] = node * MAX_CHILDREN + slot;
                expected++;
            }
        }
        if (expected > 0) {
            fail(ST_SYNTAX, nodeCount);
        }
    }

    private boolean sortFits(int node, int place) {
        boolean isType = isTypeKind(nodeKind[node]);
        if (place == ROOT_PLACE) {
            return !isType;
        }
        int parent = place / MAX_CHILDREN;
        return isType == wantsType(nodeKind[parent], place % MAX_CHILDREN);
    }

    private void hang(int node, int place) {
        nodeAtPlace[place] = node;
        placeOfNode[node] = place;
        if (place == ROOT_PLACE) {
            variablesSeen[node] = 0;
        } else {
            int parent = place / MAX_CHILDREN;
            int bound = variablesBound(nodeKind[parent], place % MAX_CHILDREN);
            variablesSeen[node] = variablesSeen[parent] + bound;
        }
    }

    private void checkScope() {
        for (int node = 0; node < nodeCount; node++) {
            if (nodeKind[node] == VAR && nodeArg[node] >= variablesSeen[node]) {
                fail(ST_SCOPE, node);
                return;
            }
        }
    }

    // Types and grades.

    // In prefix order a subtree is done when its last leaf is: going up from each leaf, as long as
    // the node just done is a last child, visits the nodes in post-order.
    private void checkTypesAndGrades() {
        typeCount = 0;
        for (int leaf = 0; leaf < nodeCount; leaf++) {
            int node = leaf;
            boolean allChildrenDone = childCount(nodeKind[leaf]) == 0;
            for (int level = 0; level < MAX_NODES && allChildrenDone; level++) {
                complete(node);
                int place = placeOfNode[node];
                if (currentStatus != ST_OK || place == ROOT_PLACE) {
                    return;
                }
                node = place / MAX_CHILDREN;
                int slot = place % MAX_CHILDREN;
                prepareNextChild(node, slot);
                if (currentStatus != ST_OK) {
                    return;
                }
                allChildrenDone = slot == childCount(nodeKind[node]) - 1;
            }
        }
    }

    // Makes the tests marked (first), and gives the next child's variables their types.
    private void prepareNextChild(int node, int doneSlot) {
        int level = variablesSeen[node];
        int first = typeOfChild(node, 0);
        switch (nodeKind[node]) {
            case LAM:
                variableType[level] = first;
                break;
            case LETPAIR:
                if (doneSlot == 0 && needKind(node, first, T_PAIR)) {
                    variableType[level] = typeLeft[first];
                    variableType[level + 1] = typeRight[first];
                }
                break;
            case CASE:
                if (doneSlot > 0 || needKind(node, first, T_SUM)) {
                    variableType[level] = doneSlot == 0 ? typeLeft[first] : typeRight[first];
                }
                break;
            case LETBOX:
                if (doneSlot == 0 && needKind(node, first, T_BOX)) {
                    variableType[level] = typeLeft[first];
                }
                break;
            default:
                break;
        }
    }

    private boolean needKind(int node, int type, int kind) {
        if (typeKind[type] != kind) {
            fail(ST_TYPE, node);
            return false;
        }
        return true;
    }

    private void complete(int node) {
        switch (nodeKind[node]) {
            case VAR:
                completeVariable(node);
                break;
            case LIT:
                nodeType[node] = typeNumber(T_INT, 0, 0, 0);
                clearUsage(node);
                break;
            case ADD:
                completeAdd(node);
                break;
            case LAM:
                completeLam(node);
                break;
            case APP:
                completeApp(node);
                break;
            case LETPAIR:
                completeLetPair(node);
                break;
            case CASE:
                completeCase(node);
                break;
            case LETBOX:
                completeLetBox(node);
                break;
            case PAIR:
            case INL:
            case INR:
            case BOX:
                completeValue(node);
                break;
            default:
                completeType(node);
                break;
        }
    }

    private void completeType(int node) {
        int kind = nodeKind[node];
        int children = childCount(kind);
        int left = children > 0 ? typeOfChild(node, 0) : 0;
        int right = children > 1 ? typeOfChild(node, 1) : 0;
        nodeType[node] = typeNumber(kind, nodeArg[node], left, right);
    }

    private void completeVariable(int node) {
        int level = variablesSeen[node] - 1 - nodeArg[node];
        nodeType[node] = variableType[level];
        clearUsage(node);
        usage[node * MAX_VARIABLES + level] = ONE;
    }

    private void completeAdd(int node) {
        int left = typeOfChild(node, 0);
        int right = typeOfChild(node, 1);
        if (needKind(node, left, T_INT) && needKind(node, right, T_INT)) {
            nodeType[node] = left;
            addUsage(node, 0, ONE, 1, ONE);
        }
    }

    private void completeLam(int node) {
        int needed = usageOfX(node);
        settleGrade(node, needed);
        int argument = typeOfChild(node, 0);
        int result = typeOfChild(node, 1);
        nodeType[node] = typeNumber(T_FUN, gradeOfBinder[node], argument, result);
        addUsage(node, 1, ONE, 1, ZERO);
    }

    private void completeApp(int node) {
        int function = typeOfChild(node, 0);
        int argument = typeOfChild(node, 1);
        if (typeKind[function] != T_FUN || typeLeft[function] != argument) {
            fail(ST_TYPE, node);
            return;
        }
        nodeType[node] = typeRight[function];
        addUsage(node, 0, ONE, 1, typeGrade[function]);
    }

    private void completeLetPair(int node) {
        int usageX = usageOfX(node);
        int usageY = usageOfY(node);
        int needed = join(usageX, usageY);
        settleGrade(node, needed);
        nodeType[node] = typeOfChild(node, 1);
        int scale = join(gradeOfBinder[node], ONE);
        addUsage(node, 0, scale, 1, ONE);
    }

    private void completeCase(int node) {
        int left = typeOfChild(node, 1);
        int right = typeOfChild(node, 2);
        if (left != right) {
            fail(ST_TYPE, node);
            return;
        }
        int usageX = usageOfX(node);
        int usageY = usageOfY(node);
        int needed = join(usageX, usageY);
        settleGrade(node, needed);
        nodeType[node] = left;
        int scale = join(gradeOfBinder[node], ONE);
        addCaseUsage(node, scale);
    }

    private void completeLetBox(int node) {
        int box = typeOfChild(node, 0);
        gradeOfBinder[node] = typeGrade[box];
        if (usageOfX(node) > gradeOfBinder[node]) {
            fail(ST_GRADE, node);
        }
        nodeType[node] = typeOfChild(node, 1);
        addUsage(node, 0, ONE, 1, ONE);
    }

    private void completeValue(int node) {
        int left = typeOfChild(node, 0);
        int right = nodeKind[node] == BOX ? 0 : typeOfChild(node, 1);
        switch (nodeKind[node]) {
            case PAIR:
                nodeType[node] = typeNumber(T_PAIR, 0, left, right);
                addUsage(node, 0, ONE, 1, ONE);
                break;
            case INL:
                // INL names the type that its term does not have: the right one.
                nodeType[node] = typeNumber(T_SUM, 0, right, left);
                addUsage(node, 1, ONE, 1, ZERO);
                break;
            case INR:
                nodeType[node] = typeNumber(T_SUM, 0, left, right);
                addUsage(node, 1, ONE, 1, ZERO);
                break;
            default:
                nodeType[node] = typeNumber(T_BOX, nodeArg[node], left, 0);
                addUsage(node, 0, nodeArg[node], 0, ZERO);
                break;
        }
    }

    private void settleGrade(int node, int needed) {
        if (nodeArg[node] == INFER) {
            gradeOfBinder[node] = needed;
        } else {
            gradeOfBinder[node] = nodeArg[node];
            if (needed > nodeArg[node]) {
                fail(ST_GRADE, node);
            }
        }
    }

    private int typeNumber(int kind, int grade, int left, int right) {
        for (int type = 0; type < typeCount; type++) {
            if (typeKind[type] == kind && typeGrade[type] == grade
                    && typeLeft[type] == left && typeRight[type] == right) {
                return type;
            }
        }
        int made = typeCount;
        typeKind[made] = kind;
        typeGrade[made] = grade;
        typeLeft[made] = left;
        typeRight[made] = right;
        typeCount++;
        return made;
    }

    // Usage lists.

    private static int join(int a, int b) {
        return a > b ? a : b;
    }

    private static int sum(int a, int b) {
        return a + b > MANY ? MANY : a + b;
    }

    private static int product(int a, int b) {
        return a * b > MANY ? MANY : a * b;
    }

    private int usageIn(int node, int slot, int level) {
        return usage[nodeAtPlace[node * MAX_CHILDREN + slot] * MAX_VARIABLES + level];
    }

    private int usageOfX(int binder) {
        return usageIn(binder, 1, variablesSeen[binder]);
    }

    private int usageOfY(int binder) {
        if (nodeKind[binder] == CASE) {
            return usageIn(binder, 2, variablesSeen[binder]);
        }
        return usageIn(binder, 1, variablesSeen[binder] + 1);
    }

    private void clearUsage(int node) {
        for (int level = 0; level < variablesSeen[node]; level++) {
            usage[node * MAX_VARIABLES + level] = ZERO;
        }
    }

    private void addUsage(int node, int slotA, int gradeA, int slotB, int gradeB) {
        for (int level = 0; level < variablesSeen[node]; level++) {
            int usageA = usageIn(node, slotA, level);
            int usageB = usageIn(node, slotB, level);
            int scaledA = product(gradeA, usageA);
            int scaledB = product(gradeB, usageB);
            usage[node * MAX_VARIABLES + level] = sum(scaledA, scaledB);
        }
    }

    private void addCaseUsage(int node, int scale) {
        for (int level = 0; level < variablesSeen[node]; level++) {
            int usageS = usageIn(node, 0, level);
            int usageL = usageIn(node, 1, level);
            int usageR = usageIn(node, 2, level);
            int scaledS = product(scale, usageS);
            int joined = join(usageL, usageR);
            usage[node * MAX_VARIABLES + level] = sum(scaledS, joined);
        }
    }

    // The machine.

    private void enter(int node, int env) {
        currentNode = node;
        currentEnv = env;
        returning = false;
    }

    private void evaluate() {
        switch (nodeKind[currentNode]) {
            case VAR:
                dereference();
                break;
            case ADD:
            case APP:
            case LETPAIR:
            case CASE:
            case LETBOX:
                suspend();
                break;
            case LIT:
                returnedNumber = nodeArg[currentNode];
                returning = true;
                break;
            default:
                returning = true;
                break;
        }
    }

    private void dereference() {
        if (derefsMade == derefLimit) {
            lastOutcome = OUT_DEREF_LIMIT;
            return;
        }
        int found = currentEnv;
        for (int passed = 0; passed < nodeArg[currentNode]; passed++) {
            found = restOfEnv[found];
        }
        countOfRecord[found]++;
        derefsMade++;
        enter(thunkNode[found], thunkEnv[found]);
    }

    private void suspend() {
        if (frameCount == frameLimit) {
            lastOutcome = OUT_FRAME_LIMIT;
            return;
        }
        push(nodeKind[currentNode], currentNode, currentEnv);
        currentNode = childOf(currentNode, 0);
    }

    private void push(int mark, int word, int env) {
        frameMark[frameCount] = mark;
        frameWord[frameCount] = word;
        frameEnv[frameCount] = env;
        frameCount++;
    }

    private void returnValue() {
        if (frameCount == 0) {
            halt();
            return;
        }
        frameCount--;
        int word = frameWord[frameCount];
        int env = frameEnv[frameCount];
        switch (frameMark[frameCount]) {
            case ADDR_FRAME:
                returnedNumber = word + returnedNumber;
                break;
            case ADD:
                enterRightTerm(word, env);
                break;
            case APP:
                enterFunction(word, env);
                break;
            case LETPAIR:
                enterLetPair(word, env);
                break;
            case CASE:
                enterBranch(word, env);
                break;
            default:
                enterLetBox(word, env);
                break;
        }
    }

    // A number comes from a LIT, and adding to it moves nowhere: with a number returned, the
    // current node is still a LIT, so the node's kind tells the value's kind.
    private void halt() {
        switch (nodeKind[currentNode]) {
            case LAM:
                lastOutcome = OUT_FUN;
                break;
            case PAIR:
                lastOutcome = OUT_PAIR;
                break;
            case INL:
                lastOutcome = OUT_INL;
                break;
            case INR:
                lastOutcome = OUT_INR;
                break;
            case BOX:
                lastOutcome = OUT_BOX;
                break;
            default:
                lastOutcome = OUT_INT;
                lastValue = returnedNumber;
                break;
        }
    }

    private void enterRightTerm(int add, int env) {
        int right = childOf(add, 1);
        push(ADDR_FRAME, returnedNumber, EMPTY);
        enter(right, env);
    }

    private void enterFunction(int app, int env) {
        int lam = currentNode;
        int argument = childOf(app, 1);
        int body = childOf(lam, 1);
        if (makeRecord(lam, argument, env, currentEnv)) {
            enter(body, recordsMade);
        }
    }

    private void enterLetPair(int letPair, int env) {
        int left = childOf(currentNode, 0);
        int right = childOf(currentNode, 1);
        int body = childOf(letPair, 1);
        if (makeRecord(letPair, left, currentEnv, env)
                && makeRecord(letPair, right, currentEnv, recordsMade)) {
            enter(body, recordsMade);
        }
    }

    private void enterBranch(int caseNode, int env) {
        int content = childOf(currentNode, 1);
        int branch = childOf(caseNode, nodeKind[currentNode] == INL ? 1 : 2);
        if (makeRecord(caseNode, content, currentEnv, env)) {
            enter(branch, recordsMade);
        }
    }

    private void enterLetBox(int letBox, int env) {
        int content = childOf(currentNode, 0);
        int body = childOf(letBox, 1);
        if (makeRecord(letBox, content, currentEnv, env)) {
            enter(body, recordsMade);
        }
    }

    // The new record's environment, the record then rest, bears the number recordsMade after this.
    private boolean makeRecord(int binder, int thunk, int envOfThunk, int rest) {
        if (recordsMade == recordLimit) {
            lastOutcome = OUT_RECORD_LIMIT;
            return false;
        }
        recordsMade++;
        thunkNode[recordsMade] = thunk;
        thunkEnv[recordsMade] = envOfThunk;
        restOfEnv[recordsMade] = rest;
        binderOfRecord[recordsMade] = binder;
        gradeOfRecord[recordsMade] = gradeOfBinder[binder];
        countOfRecord[recordsMade] = 0;
        return true;
    }
}
