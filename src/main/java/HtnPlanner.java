public final class HtnPlanner {
    public static final int NUM_OPS = 16;
    public static final int NUM_TASKS = 32;
    public static final int MAX_METHODS = 32;
    public static final int MAX_SUBTASKS = 4;
    public static final int MAX_INITIAL = 8;
    public static final int MAX_PLAN = 32;

    public static final int SET_OP_PRE = 0;
    public static final int SET_OP_NEG = 1;
    public static final int SET_OP_ADD = 2;
    public static final int SET_OP_DEL = 3;
    public static final int SET_M_PRE = 4;
    public static final int SET_M_NEG = 5;
    public static final int SET_INIT = 6;

    public static final int STATUS_NONE = 0;
    public static final int PLAN_FOUND = 1;
    public static final int PLAN_FAILED = 2;
    public static final int PLAN_BUDGET = 3;

    public static final int EXEC_DONE = -1;
    public static final int EXEC_FAIL = -2;

    public static final int INFO_STATUS = 0;
    public static final int INFO_PLAN_LENGTH = 1;
    public static final int INFO_DECOMP_LENGTH = 2;
    public static final int INFO_EXPANSIONS = 3;
    public static final int INFO_EXEC_POS = 4;
    public static final int INFO_METHOD_COUNT = 5;
    public static final int INFO_INITIAL_COUNT = 6;
    public static final int INFO_DEPTH_LIMIT = 7;
    public static final int INFO_BUDGET = 8;

    private static final int MAX_DEPTH = 16;
    private static final int MAX_BUDGET = 1024;

    // Stands for a missing entry, method or cell, as no real one is negative.
    private static final int NONE = -1;

    private static final int ALL_SUBTASKS = MAX_METHODS * MAX_SUBTASKS;

    // The initial tasks and the subtasks of every method on one branch.
    private static final int MAX_CELLS = MAX_INITIAL + MAX_DEPTH * MAX_SUBTASKS;

    // A step makes an attempt, takes back a method that an attempt applied, or
    // ends the search: a run needs no more than 2 * MAX_BUDGET + 1 of them.
    private static final int MAX_STEPS = 1000000;

    private final int depthLimit;
    private final int budget;

    private final long[] opPre = new long[NUM_OPS];
    private final long[] opNeg = new long[NUM_OPS];
    private final long[] opAdd = new long[NUM_OPS];
    private final long[] opDel = new long[NUM_OPS];

    private final long[] methodPre = new long[MAX_METHODS];
    private final long[] methodNeg = new long[MAX_METHODS];
    private final int[] methodTask = new int[MAX_METHODS];
    private final int[] subtaskCount = new int[MAX_METHODS];
    private final int[] subtasks = new int[ALL_SUBTASKS];
    private int methodCount = 0;

    private final int[] initialTasks = new int[MAX_INITIAL];
    private int initialCount = 0;
    private long initialState = 0L;

    private int status = STATUS_NONE;
    private int expansions = 0;
    private final int[] planSteps = new int[MAX_PLAN];
    private int planLength = 0;
    private final int[] decomposition = new int[MAX_DEPTH];
    private int decompLength = 0;

    private long execState = 0L;
    private int execPosition = 0;

    // The tasks still to do are a chain of cells. Branches share the tail of
    // the chain, so going back needs only the cell where a branch began.
    private final int[] cellTask = new int[MAX_CELLS];
    private final int[] cellNext = new int[MAX_CELLS];
    private int firstCell = NONE;
    private long searchState = 0L;
    private int nextMethod = 0;

    // For each method of the decomposition, where the search stood before it.
    private final int[] savedCell = new int[MAX_DEPTH];
    private final long[] savedState = new long[MAX_DEPTH];
    private final int[] savedPlanLength = new int[MAX_DEPTH];

    public HtnPlanner(int depthLimit, int budget) {
        this.depthLimit = clamp(depthLimit, MAX_DEPTH);
        this.budget = clamp(budget, MAX_BUDGET);
    }

    public boolean setSet(int which, int index, long bits) {
        if (!namesSet(which, index)) {
            return false;
        }
        storeSet(which, index, bits);
        discard();
        return true;
    }

    public long getSet(int which, int index) {
        if (!namesSet(which, index)) {
            return 0L;
        }
        switch (which) {
            case SET_OP_PRE:
                return opPre[index];
            case SET_OP_NEG:
                return opNeg[index];
            case SET_OP_ADD:
                return opAdd[index];
            case SET_OP_DEL:
                return opDel[index];
            case SET_M_PRE:
                return methodPre[index];
            case SET_M_NEG:
                return methodNeg[index];
            default:
                return initialState;
        }
    }

    public int addMethod(int task) {
        if (!isTask(task) || isPrimitive(task) || methodCount >= MAX_METHODS) {
            return NONE;
        }
        // Nothing writes beyond methodCount, so the new method's sets and its
        // subtask count are still 0.
        int added = methodCount;
        methodTask[added] = task;
        methodCount = added + 1;
        discard();
        return added;
    }

    public boolean addSubtask(int m, int task) {
        if (!isMethod(m) || !isTask(task) || subtaskCount[m] >= MAX_SUBTASKS) {
            return false;
        }
        subtasks[m * MAX_SUBTASKS + subtaskCount[m]] = task;
        subtaskCount[m]++;
        discard();
        return true;
    }

    public int getMethodEntry(int m, int k) {
        if (!isMethod(m) || k < 0 || k > subtaskCount[m]) {
            return NONE;
        }
        if (k == 0) {
            return methodTask[m];
        }
        return subtasks[m * MAX_SUBTASKS + k - 1];
    }

    public boolean addInitialTask(int task) {
        if (!isTask(task) || initialCount >= MAX_INITIAL) {
            return false;
        }
        initialTasks[initialCount] = task;
        initialCount++;
        discard();
        return true;
    }

    public void clearInitialTasks() {
        initialCount = 0;
        discard();
    }

    public int getInitialTask(int i) {
        return i >= 0 && i < initialCount ? initialTasks[i] : NONE;
    }

    public int plan() {
        discard();
        startSearch();
        status = search();
        if (status != PLAN_FOUND) {
            planLength = 0;
            decompLength = 0;
        }
        return status;
    }

    public int getPlanStep(int i) {
        return i >= 0 && i < planLength ? planSteps[i] : NONE;
    }

    public int getDecompMethod(int i) {
        return i >= 0 && i < decompLength ? decomposition[i] : NONE;
    }

    public void resetExecutor() {
        execState = initialState;
        execPosition = 0;
    }

    public int executeStep() {
        if (status != PLAN_FOUND || execPosition >= planLength) {
            return EXEC_DONE;
        }
        int op = planSteps[execPosition];
        if (!isApplicable(execState, opPre[op], opNeg[op])) {
            return EXEC_FAIL;
        }
        execState = applyOperator(op, execState);
        execPosition++;
        return op;
    }

    public long getExecState() {
        return execState;
    }

    public int getInfo(int what) {
        switch (what) {
            case INFO_STATUS:
                return status;
            case INFO_PLAN_LENGTH:
                return planLength;
            case INFO_DECOMP_LENGTH:
                return decompLength;
            case INFO_EXPANSIONS:
                return expansions;
            case INFO_EXEC_POS:
                return execPosition;
            case INFO_METHOD_COUNT:
                return methodCount;
            case INFO_INITIAL_COUNT:
                return initialCount;
            case INFO_DEPTH_LIMIT:
                return depthLimit;
            case INFO_BUDGET:
                return budget;
            default:
                return NONE;
        }
    }

    private static int clamp(int value, int most) {
        if (value < 1) {
            return 1;
        }
        return value > most ? most : value;
    }

    private static boolean isTask(int task) {
        return task >= 0 && task < NUM_TASKS;
    }

    private static boolean isPrimitive(int task) {
        return task < NUM_OPS;
    }

    private static boolean isApplicable(long state, long pre, long neg) {
        return (state & pre) == pre && (state & neg) == 0L;
    }

    private boolean isMethod(int m) {
        return m >= 0 && m < methodCount;
    }

    private boolean namesSet(int which, int index) {
        if (which < SET_OP_PRE || which > SET_INIT) {
            return false;
        }
        if (which <= SET_OP_DEL) {
            return index >= 0 && index < NUM_OPS;
        }
        if (which <= SET_M_NEG) {
            return isMethod(index);
        }
        return index == 0;
    }

    private void storeSet(int which, int index, long bits) {
        switch (which) {
            case SET_OP_PRE:
                opPre[index] = bits;
                break;
            case SET_OP_NEG:
                opNeg[index] = bits;
                break;
            case SET_OP_ADD:
                opAdd[index] = bits;
                break;
            case SET_OP_DEL:
                opDel[index] = bits;
                break;
            case SET_M_PRE:
                methodPre[index] = bits;
                break;
            case SET_M_NEG:
                methodNeg[index] = bits;
                break;
            default:
                initialState = bits;
                break;
        }
    }

    private void discard() {
        status = STATUS_NONE;
        planLength = 0;
        decompLength = 0;
        expansions = 0;
        resetExecutor();
    }

    private long applyOperator(int op, long state) {
        return (state & ~opDel[op]) | opAdd[op];
    }

    private void startSearch() {
        searchState = initialState;
        nextMethod = 0;
        firstCell = NONE;
        for (int i = initialCount - 1; i >= 0; i--) {
            putFirst(i, initialTasks[i]);
        }
    }

    private void putFirst(int cell, int task) {
        cellTask[cell] = task;
        cellNext[cell] = firstCell;
        firstCell = cell;
    }

    // Each step answers STATUS_NONE while the search is to go on.
    private int search() {
        int outcome = STATUS_NONE;
        for (int step = 0; step < MAX_STEPS && outcome == STATUS_NONE; step++) {
            if (firstCell == NONE) {
                outcome = PLAN_FOUND;
            } else if (isPrimitive(cellTask[firstCell])) {
                outcome = tryOperator(cellTask[firstCell]);
            } else {
                outcome = tryNextMethod(cellTask[firstCell]);
            }
        }
        return outcome;
    }

    private int tryOperator(int op) {
        if (!countAttempt()) {
            return PLAN_BUDGET;
        }
        if (planLength >= MAX_PLAN || !isApplicable(searchState, opPre[op], opNeg[op])) {
            return goBack();
        }
        planSteps[planLength] = op;
        planLength++;
        searchState = applyOperator(op, searchState);
        firstCell = cellNext[firstCell];
        return STATUS_NONE;
    }

    private int tryNextMethod(int task) {
        int m = findMethod(task, nextMethod);
        // Only a method that is there costs an attempt: running out of them
        // is a failure even when the budget is used up.
        if (m == NONE) {
            return goBack();
        }
        if (!countAttempt()) {
            return PLAN_BUDGET;
        }
        if (decompLength < depthLimit && isApplicable(searchState, methodPre[m], methodNeg[m])) {
            applyMethod(m);
        } else {
            nextMethod = m + 1;
        }
        return STATUS_NONE;
    }

    private boolean countAttempt() {
        if (expansions >= budget) {
            return false;
        }
        expansions++;
        return true;
    }

    private int findMethod(int task, int from) {
        for (int m = from; m < methodCount; m++) {
            if (methodTask[m] == task) {
                return m;
            }
        }
        return NONE;
    }

    private void applyMethod(int m) {
        int depth = decompLength;
        savedCell[depth] = firstCell;
        savedState[depth] = searchState;
        savedPlanLength[depth] = planLength;
        decomposition[depth] = m;
        decompLength = depth + 1;
        nextMethod = 0;
        // Each depth has cells of its own: a cell is overwritten only after
        // every branch that reached it has been given up.
        int ownCells = MAX_INITIAL + depth * MAX_SUBTASKS;
        firstCell = cellNext[firstCell];
        for (int k = subtaskCount[m] - 1; k >= 0; k--) {
            putFirst(ownCells + k, subtasks[m * MAX_SUBTASKS + k]);
        }
    }

    // Takes back the last method, so that the ones after it get their turn.
    private int goBack() {
        if (decompLength == 0) {
            return PLAN_FAILED;
        }
        decompLength--;
        firstCell = savedCell[decompLength];
        searchState = savedState[decompLength];
        planLength = savedPlanLength[decompLength];
        nextMethod = decomposition[decompLength] + 1;
        return STATUS_NONE;
    }
}
