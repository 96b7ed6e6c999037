/** Promise 10: plan. Every case tells the status, expansions, plan and decomposition due. */
public final class Promise10PlanTest {
    private static final Check check = new Check();
    private static final int FOUND = HtnPlanner.PLAN_FOUND;
    private static final int FAILED = HtnPlanner.PLAN_FAILED;
    private static final int BUDGET = HtnPlanner.PLAN_BUDGET;

    public static void main(String[] args) {
        emptyTaskList();
        backtracking();
        taskWithoutMethods();
        applicability();
        addWinsOverDelete();
        methodOrderAndCount();
        allMethodsForOneTask();
        methodWithoutSubtasks();
        subtasksComeBeforeTheRest();
        backtracksIntoAnEarlierTask();
        depthLimit();
        depthCountsSiblings();
        planLimit();
        planLimitBacktracks();
        budgetEdges();
        budgetUsedUpWithNoMethodLeft();
        longestChains();
        resetsTheExecutorAndRepeats();
        check.end();
    }

    private static void outcome(String name, HtnPlanner x, int status, int expansions,
            String plan, String decomposition) {
        String domain = Check.domain(x);
        String due = Check.outcomeText(status, expansions, plan, decomposition, 0,
                x.getSet(HtnPlanner.SET_INIT, 0));
        for (int time = 0; time < 2; time++) {
            check.due("plan() of " + name, x.plan(), status);
            check.same("the outcome of " + name, Check.outcome(x), due);
        }
        check.same("the domain after " + name, Check.domain(x), domain);
    }

    private static HtnPlanner planner(int depthLimit, int budget, int... initialTasks) {
        HtnPlanner x = new HtnPlanner(depthLimit, budget);
        for (int task : initialTasks) {
            x.addInitialTask(task);
        }
        return x;
    }

    private static int method(HtnPlanner x, int task, int... subtasks) {
        int m = x.addMethod(task);
        for (int subtask : subtasks) {
            x.addSubtask(m, subtask);
        }
        return m;
    }

    /** An operator that is applicable in no state. */
    private static void forbid(HtnPlanner x, int op) {
        x.setSet(HtnPlanner.SET_OP_PRE, op, 1L);
        x.setSet(HtnPlanner.SET_OP_NEG, op, 1L);
    }

    private static void emptyTaskList() {
        HtnPlanner x = planner(1, 1);
        x.setSet(HtnPlanner.SET_INIT, 0, 44L);
        outcome("no tasks", x, FOUND, 0, "", "");
    }

    private static void backtracking() {
        outcome("the sample", Samples.solvable(), FOUND, 8, "0,2,1,", "1,2,");
        outcome("the failing sample", Samples.failed(), FAILED, 7, "", "");
        outcome("the endless sample", Samples.outOfBudget(), BUDGET, 3, "", "");
    }

    private static void taskWithoutMethods() {
        HtnPlanner x = planner(4, 10, 16);
        outcome("a task without methods", x, FAILED, 0, "", "");
        method(x, 17);
        outcome("a task with another's method", x, FAILED, 0, "", "");
        HtnPlanner y = planner(4, 10, 3, 16);
        outcome("a task without methods behind another", y, FAILED, 1, "", "");
    }

    private static void applicability() {
        long[] states = {0L, 1L, 2L, 3L, 6L, 7L, Long.MIN_VALUE, Long.MIN_VALUE | 3L, -1L};
        long[] sets = {0L, 1L, 2L, 3L, 4L, Long.MIN_VALUE, Long.MIN_VALUE | 1L, -1L};
        for (long state : states) {
            for (long pre : sets) {
                for (long neg : sets) {
                    boolean applicable = true;
                    for (int fact = 0; fact < 64; fact++) {
                        boolean holds = (state >>> fact & 1L) != 0L;
                        applicable &= holds || (pre >>> fact & 1L) == 0L;
                        applicable &= !holds || (neg >>> fact & 1L) == 0L;
                    }
                    applicability(state, pre, neg, applicable);
                }
            }
        }
    }

    private static void applicability(long state, long pre, long neg, boolean applicable) {
        String name = "PRE " + pre + " NEG " + neg + " in " + state;
        int status = applicable ? FOUND : FAILED;
        HtnPlanner x = planner(1, 5, 6);
        x.setSet(HtnPlanner.SET_INIT, 0, state);
        x.setSet(HtnPlanner.SET_OP_PRE, 6, pre);
        x.setSet(HtnPlanner.SET_OP_NEG, 6, neg);
        outcome("operator " + name, x, status, 1, applicable ? "6," : "", "");
        HtnPlanner y = planner(1, 5, 31);
        y.setSet(HtnPlanner.SET_INIT, 0, state);
        method(y, 31);
        y.setSet(HtnPlanner.SET_M_PRE, 0, pre);
        y.setSet(HtnPlanner.SET_M_NEG, 0, neg);
        outcome("method " + name, y, status, 1, "", applicable ? "0," : "");
    }

    private static void addWinsOverDelete() {
        HtnPlanner x = planner(1, 5, 0, 1);
        x.setSet(HtnPlanner.SET_INIT, 0, 3L);
        x.setSet(HtnPlanner.SET_OP_DEL, 0, 7L);
        x.setSet(HtnPlanner.SET_OP_ADD, 0, 2L | 8L);
        x.setSet(HtnPlanner.SET_OP_PRE, 1, 2L | 8L);
        x.setSet(HtnPlanner.SET_OP_NEG, 1, 1L | 4L);
        outcome("a fact in ADD and DEL", x, FOUND, 2, "0,1,", "");
    }

    private static void methodOrderAndCount() {
        HtnPlanner x = planner(4, 50, 20);
        method(x, 21, 9);
        int needsFact = method(x, 20, 1);
        x.setSet(HtnPlanner.SET_M_PRE, needsFact, 1L << 63);
        method(x, 21, 9);
        method(x, 20, 2);
        method(x, 20, 3);
        outcome("the first applicable method", x, FOUND, 3, "2,", "3,");
        x.setSet(HtnPlanner.SET_INIT, 0, 1L << 63);
        outcome("the first method", x, FOUND, 2, "1,", "1,");
        forbid(x, 1);
        forbid(x, 2);
        outcome("the last method", x, FOUND, 6, "3,", "4,");
        forbid(x, 3);
        outcome("no method", x, FAILED, 6, "", "");
    }

    private static void allMethodsForOneTask() {
        HtnPlanner x = planner(1, 100, 16);
        for (int m = 0; m < 32; m++) {
            method(x, 16, m < 31 ? 0 : 1);
        }
        forbid(x, 0);
        outcome("the last of 32 methods", x, FOUND, 31 * 2 + 2, "1,", "31,");
        forbid(x, 1);
        outcome("none of 32 methods", x, FAILED, 32 * 2, "", "");
    }

    private static void methodWithoutSubtasks() {
        HtnPlanner x = planner(2, 10, 16, 4, 16);
        method(x, 16);
        outcome("empty methods", x, FOUND, 3, "4,", "0,0,");
    }

    private static void subtasksComeBeforeTheRest() {
        HtnPlanner x = planner(8, 50, 16, 8, 17);
        method(x, 16, 1, 17, 2, 18);
        method(x, 17, 3, 18);
        method(x, 18, 4, 5);
        outcome("nested subtasks", x, FOUND, 11 + 6, "1,3,4,5,2,4,5,8,3,4,5,", "0,1,2,2,1,2,");
    }

    /** The first task's first method works by itself, but the second task needs the other one. */
    private static void backtracksIntoAnEarlierTask() {
        HtnPlanner x = planner(8, 50, 16, 17, 3);
        x.setSet(HtnPlanner.SET_INIT, 0, 16L);
        x.setSet(HtnPlanner.SET_OP_ADD, 0, 1L);
        x.setSet(HtnPlanner.SET_OP_DEL, 0, 16L);
        x.setSet(HtnPlanner.SET_OP_ADD, 1, 2L);
        x.setSet(HtnPlanner.SET_OP_PRE, 1, 16L);
        x.setSet(HtnPlanner.SET_OP_PRE, 2, 2L);
        x.setSet(HtnPlanner.SET_OP_NEG, 3, 1L);
        x.setSet(HtnPlanner.SET_OP_PRE, 3, 16L);
        method(x, 16, 0, 0);
        method(x, 16, 1, 4);
        method(x, 17, 5);
        method(x, 17, 2, 2);
        // 0 applies method 0 (1), 0 0 (3), method 2 (4), 5 (5), 3 fails (6),
        // method 3 (7), 2 fails (8); method 1 (9), 1 4 (11), method 2 (12), 5 3 (14).
        outcome("an earlier task's other method", x, FOUND, 14, "1,4,5,3,", "1,2,");
    }

    private static void depthLimit() {
        for (int limit = 1; limit <= 16; limit++) {
            HtnPlanner x = planner(limit, 1024, 16);
            method(x, 16, 0, 16);
            outcome("an endless method, depth " + limit, x, FAILED, 2 * limit + 1, "", "");
            method(x, 16);
            // The branch is full: both methods get their attempt there, then
            // the second one is applied one level up.
            String ops = "0,".repeat(limit - 1);
            outcome("a way out, depth " + limit, x, FOUND, 2 * limit + 3,
                    ops, "0,".repeat(limit - 1) + "1,");
        }
    }

    private static void depthCountsSiblings() {
        HtnPlanner x = planner(2, 50, 16, 16, 16);
        method(x, 16, 7);
        method(x, 16, 8);
        // Three methods on one branch are one too many, wherever they nest.
        outcome("three siblings at depth 2", x, FAILED, 2 * (2 + 2 * (2 + 2)), "", "");
        HtnPlanner y = planner(3, 50, 16, 16, 16);
        method(y, 16, 7);
        outcome("three siblings at depth 3", y, FOUND, 6, "7,7,7,", "0,0,0,");
    }

    /** Eight initial tasks of four operators each fill the plan exactly. */
    private static void planLimit() {
        HtnPlanner x = planner(16, 1024, 16, 16, 16, 16, 16, 16, 16, 16);
        method(x, 16, 1, 2, 3, 4);
        outcome("a full plan", x, FOUND, 40, "1,2,3,4,".repeat(8), "0,".repeat(8));
        HtnPlanner y = planner(16, 1024, 16, 16, 16, 16, 16, 16, 16, 17);
        method(y, 16, 1, 2, 3, 4);
        method(y, 17, 5, 5, 5, 18);
        method(y, 18, 6, 7);
        outcome("a plan too long by one", y, FAILED, 7 * 5 + 4 + 3, "", "");
    }

    private static void planLimitBacktracks() {
        HtnPlanner x = planner(16, 1024, 16, 16, 16, 16, 16, 16, 16, 17);
        method(x, 16, 1, 2, 3, 4);
        method(x, 17, 5, 5, 5, 18);
        method(x, 18, 6, 7);
        method(x, 18, 8);
        method(x, 18, 9);
        outcome("a full plan at the second try", x, FOUND, 7 * 5 + 4 + 3 + 2,
                "1,2,3,4,".repeat(7) + "5,5,5,8,", "0,".repeat(7) + "1,3,");
        HtnPlanner y = planner(16, 1024, 16, 16, 16, 16, 16, 16, 16, 17);
        method(y, 16, 1, 2, 3, 4);
        method(y, 17, 5, 5, 5, 18);
        method(y, 18, 6, 19);
        method(y, 19);
        outcome("a method after a full plan", y, FOUND, 7 * 5 + 4 + 3,
                "1,2,3,4,".repeat(7) + "5,5,5,6,", "0,".repeat(7) + "1,2,3,");
    }

    private static void budgetEdges() {
        for (int budget = 1; budget <= 10; budget++) {
            HtnPlanner y = withBudget(Samples.solvable(), budget);
            if (budget < 8) {
                outcome("the sample, budget " + budget, y, BUDGET, budget, "", "");
            } else {
                outcome("the sample, budget " + budget, y, FOUND, 8, "0,2,1,", "1,2,");
            }
            HtnPlanner z = withBudget(Samples.failed(), budget);
            int made = budget < 7 ? budget : 7;
            outcome("the failing sample, budget " + budget, z, budget < 7 ? BUDGET : FAILED, made, "", "");
        }
        HtnPlanner most = planner(16, 5000, 16, 16, 16);
        method(most, 16, 16, 16);
        method(most, 16, 16, 16);
        outcome("the greatest budget", most, BUDGET, 1024, "", "");
    }

    /** The same domain and initial tasks with another budget. */
    private static HtnPlanner withBudget(HtnPlanner x, int budget) {
        HtnPlanner y = new HtnPlanner(x.getInfo(HtnPlanner.INFO_DEPTH_LIMIT), budget);
        for (int m = 0; m < x.getInfo(HtnPlanner.INFO_METHOD_COUNT); m++) {
            y.addMethod(x.getMethodEntry(m, 0));
            for (int k = 1; x.getMethodEntry(m, k) != -1; k++) {
                y.addSubtask(m, x.getMethodEntry(m, k));
            }
        }
        for (int which = 0; which <= 6; which++) {
            for (int index = 0; index < 32; index++) {
                y.setSet(which, index, x.getSet(which, index));
            }
        }
        for (int i = 0; x.getInitialTask(i) != -1; i++) {
            y.addInitialTask(x.getInitialTask(i));
        }
        return y;
    }

    private static void budgetUsedUpWithNoMethodLeft() {
        HtnPlanner x = planner(4, 2, 16);
        method(x, 16, 0);
        forbid(x, 0);
        outcome("failure with the budget used up", x, FAILED, 2, "", "");
        method(x, 16, 1);
        outcome("one more method than the budget", x, BUDGET, 2, "", "");
        HtnPlanner y = planner(4, 1, 0, 16);
        outcome("no method, budget used up", y, FAILED, 1, "", "");
        HtnPlanner z = planner(4, 1, 0, 1);
        outcome("an operator more than the budget", z, BUDGET, 1, "", "");
    }

    /** The longest chain of open tasks: eight initial ones and three more a method. */
    private static void longestChains() {
        HtnPlanner x = planner(16, 1024, 16, 1, 2, 3, 4, 5, 6, 7);
        method(x, 16, 16, 8, 9, 10);
        method(x, 16);
        // Its 15 * 3 operators are more than a plan takes, so the search goes
        // on to branches with fewer of them.
        String tail = "1,2,3,4,5,6,7,";
        check.due("plan() of the longest chain", x.plan(), FOUND);
        check.same("its plan", Check.plan(x), "8,9,10,".repeat(8) + tail);
        check.same("its decomposition", Check.decomposition(x), "0,".repeat(8) + "1,");
    }

    private static void resetsTheExecutorAndRepeats() {
        HtnPlanner x = Samples.halfExecuted();
        check.due("the position before", x.getInfo(HtnPlanner.INFO_EXEC_POS), 1);
        outcome("a second search", x, FOUND, 8, "0,2,1,", "1,2,");
        x.addInitialTask(0);
        outcome("a search of the changed domain", x, FAILED, 9, "", "");
        x.clearInitialTasks();
        outcome("a search after a failure", x, FOUND, 0, "", "");
    }
}
