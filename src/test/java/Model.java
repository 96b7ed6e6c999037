import java.util.ArrayList;
import java.util.List;

/** The document's words as plain recursive Java, to compare the planner with. */
final class Model {
    private static final class Method {
        final int task;
        long pre;
        long neg;
        final List<Integer> subtasks = new ArrayList<>();

        Method(int task) {
            this.task = task;
        }
    }

    private static final class BudgetStop extends RuntimeException {
        private static final long serialVersionUID = 1L;

        BudgetStop() {
            super(null, null, false, false);
        }
    }

    private record Solution(List<Integer> plan, List<Integer> decomposition) {
    }

    private final int depthLimit;
    private final int budget;
    private final long[][] operatorSets = new long[4][16];
    private final List<Method> methods = new ArrayList<>();
    private final List<Integer> initialTasks = new ArrayList<>();
    private long initialState;
    private int status;
    private int expansions;
    private List<Integer> plan = List.of();
    private List<Integer> decomposition = List.of();
    private long execState;
    private int execPosition;

    Model(int depthLimit, int budget) {
        this.depthLimit = Math.min(16, Math.max(1, depthLimit));
        this.budget = Math.min(1024, Math.max(1, budget));
    }

    private void discard() {
        status = 0;
        expansions = 0;
        plan = List.of();
        decomposition = List.of();
        resetExecutor();
    }

    private boolean validSet(int which, int index) {
        return which >= 0 && which <= 3 && index >= 0 && index <= 15
                || (which == 4 || which == 5) && index >= 0 && index < methods.size()
                || which == 6 && index == 0;
    }

    boolean setSet(int which, int index, long bits) {
        if (!validSet(which, index)) {
            return false;
        }
        if (which <= 3) {
            operatorSets[which][index] = bits;
        } else if (which == 4) {
            methods.get(index).pre = bits;
        } else if (which == 5) {
            methods.get(index).neg = bits;
        } else {
            initialState = bits;
        }
        discard();
        return true;
    }

    long getSet(int which, int index) {
        if (!validSet(which, index)) {
            return 0L;
        }
        if (which <= 3) {
            return operatorSets[which][index];
        }
        if (which == 6) {
            return initialState;
        }
        return which == 4 ? methods.get(index).pre : methods.get(index).neg;
    }

    int addMethod(int task) {
        if (task < 16 || task > 31 || methods.size() == 32) {
            return -1;
        }
        methods.add(new Method(task));
        discard();
        return methods.size() - 1;
    }

    boolean addSubtask(int m, int task) {
        if (m < 0 || m >= methods.size() || task < 0 || task > 31
                || methods.get(m).subtasks.size() == 4) {
            return false;
        }
        methods.get(m).subtasks.add(task);
        discard();
        return true;
    }

    int getMethodEntry(int m, int k) {
        if (m < 0 || m >= methods.size()) {
            return -1;
        }
        return k == 0 ? methods.get(m).task : entry(methods.get(m).subtasks, (long) k - 1);
    }

    boolean addInitialTask(int task) {
        if (task < 0 || task > 31 || initialTasks.size() == 8) {
            return false;
        }
        initialTasks.add(task);
        discard();
        return true;
    }

    void clearInitialTasks() {
        initialTasks.clear();
        discard();
    }

    int getInitialTask(int i) {
        return entry(initialTasks, i);
    }

    int plan() {
        discard();
        try {
            Solution found = solve(initialState, initialTasks, List.of(), List.of());
            status = found == null ? 2 : 1;
            if (found != null) {
                plan = found.plan();
                decomposition = found.decomposition();
            }
        } catch (BudgetStop stop) {
            status = 3;
        }
        return status;
    }

    private void attempt() {
        if (expansions == budget) {
            throw new BudgetStop();
        }
        expansions++;
    }

    private Solution solve(long state, List<Integer> tasks, List<Integer> done, List<Integer> used) {
        if (tasks.isEmpty()) {
            return new Solution(done, used);
        }
        int task = tasks.get(0);
        List<Integer> rest = tasks.subList(1, tasks.size());
        if (task <= 15) {
            attempt();
            if (!operatorApplies(task, state) || done.size() >= 32) {
                return null;
            }
            return solve(apply(task, state), rest, joined(done, List.of(task)), used);
        }
        for (int m = 0; m < methods.size(); m++) {
            Method method = methods.get(m);
            if (method.task != task) {
                continue;
            }
            attempt();
            if (applies(state, method.pre, method.neg) && used.size() < depthLimit) {
                Solution found = solve(state, joined(method.subtasks, rest), done,
                        joined(used, List.of(m)));
                if (found != null) {
                    return found;
                }
            }
        }
        return null;
    }

    int getPlanStep(int i) {
        return entry(plan, i);
    }

    int getDecompMethod(int i) {
        return entry(decomposition, i);
    }

    void resetExecutor() {
        execState = initialState;
        execPosition = 0;
    }

    int executeStep() {
        if (status != 1 || execPosition == plan.size()) {
            return -1;
        }
        int op = plan.get(execPosition);
        if (!operatorApplies(op, execState)) {
            return -2;
        }
        execState = apply(op, execState);
        execPosition++;
        return op;
    }

    long getExecState() {
        return execState;
    }

    int getInfo(int what) {
        int[] values = {status, plan.size(), decomposition.size(), expansions, execPosition,
            methods.size(), initialTasks.size(), depthLimit, budget};
        return what >= 0 && what < values.length ? values[what] : -1;
    }

    private boolean operatorApplies(int op, long state) {
        return applies(state, operatorSets[0][op], operatorSets[1][op]);
    }

    private long apply(int op, long state) {
        return (state & ~operatorSets[3][op]) | operatorSets[2][op];
    }

    private static boolean applies(long state, long pre, long neg) {
        return (state & pre) == pre && (state & neg) == 0;
    }

    private static int entry(List<Integer> list, long i) {
        return i >= 0 && i < list.size() ? list.get((int) i) : -1;
    }

    private static List<Integer> joined(List<Integer> first, List<Integer> second) {
        List<Integer> both = new ArrayList<>(first);
        both.addAll(second);
        return both;
    }
}
