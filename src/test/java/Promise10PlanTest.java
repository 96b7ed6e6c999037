/** Promise 10: plan. Every case tells the status, expansions, plan and decomposition due. */
public final class Promise10PlanTest {
    private static final Check check = new Check();
    private static final int FOUND = HtnPlanner.PLAN_FOUND;
    private static final int FAILED = HtnPlanner.PLAN_FAILED;
    private static final int BUDGET = HtnPlanner.PLAN_BUDGET;

    public static void main(String[] args) {
        emptyTaskList();
        backtracking();
        taskWithoutMethods();
        applicability();
        addWinsOverDelete();
        methodOrderAndCount();
        allMethodsForOneTask();
        methodWithoutSubtasks();
        subtasksComeBeforeTheRest();
        backtracksIntoAnEarlierTask();
        depthLimit();
        depthCountsSiblings();
        planLimit();
        planLimitBacktracks();
        budgetEdges();
        budgetUsedUpWithNoMethodLeft();
        longestChains();
        resetsTheExecutorAndRepeats();
        check.end();
    }

    private static void emptyTaskList() {
        HtnPlanner x = Samples.planner(1, 1);
        x.setSet(HtnPlanner.SET_INIT, 0, 44L);
        check.planned("no tasks", x, FOUND, 0, "", "");
    }

    private static void backtracking() {
        check.planned("the sample", Samples.solvable(), FOUND, 8, "0,2,1,", "1,2,");
        check.planned("the failing sample", Samples.failed(), FAILED, 7, "", "");
        check.planned("the endless sample", Samples.outOfBudget(), BUDGET, 3, "", "");
    }

    private static void taskWithoutMethods() {
        HtnPlanner x = Samples.planner(4, 10, 16);
        check.planned("a task without methods", x, FAILED, 0, "", "");
        Samples.method(x, 17);
        check.planned("a task with another's method", x, FAILED, 0, "", "");
        HtnPlanner y = Samples.planner(4, 10, 3, 16);
        check.planned("a task without methods behind another", y, FAILED, 1, "", "");
    }

    private static void applicability() {
        long[] states = {0L, 1L, 2L, 3L, 6L, 7L, Long.MIN_VALUE, Long.MIN_VALUE | 3L, -1L};
        long[] sets = {0L, 1L, 2L, 3L, 4L, Long.MIN_VALUE, Long.MIN_VALUE | 1L, -1L};
        for (long state : states) {
            for (long pre : sets) {
                for (long neg : sets) {
                    boolean applicable = true;
                    for (int fact = 0; fact < 64; fact++) {
                        boolean holds = (state >>> fact & 1L) != 0L;
                        applicable &= holds || (pre >>> fact & 1L) == 0L;
                        applicable &= !holds || (neg >>> fact & 1L) == 0L;
                    }
                    applicability(state, pre, neg, applicable);
                }
            }
        }
    }

    private static void applicability(long state, long pre, long neg, boolean applicable) {
        String name = "PRE " + pre + " NEG " + neg + " in " + state;
        int status = applicable ? FOUND : FAILED;
        HtnPlanner x = Samples.planner(1, 5, 6);
        x.setSet(HtnPlanner.SET_INIT, 0, state);
        x.setSet(HtnPlanner.SET_OP_PRE, 6, pre);
        x.setSet(HtnPlanner.SET_OP_NEG, 6, neg);
        check.planned("operator " + name, x, status, 1, applicable ? "6," : "", "");
        HtnPlanner y = Samples.planner(1, 5, 31);
        y.setSet(HtnPlanner.SET_INIT, 0, state);
        Samples.method(y, 31);
        y.setSet(HtnPlanner.SET_M_PRE, 0, pre);
        y.setSet(HtnPlanner.SET_M_NEG, 0, neg);
        check.planned("method " + name, y, status, 1, "", applicable ? "0," : "");
    }

    private static void addWinsOverDelete() {
        HtnPlanner x = Samples.planner(1, 5, 0, 1);
        x.setSet(HtnPlanner.SET_INIT, 0, 3L);
        x.setSet(HtnPlanner.SET_OP_DEL, 0, 7L);
        x.setSet(HtnPlanner.SET_OP_ADD, 0, 2L | 8L);
        x.setSet(HtnPlanner.SET_OP_PRE, 1, 2L | 8L);
        x.setSet(HtnPlanner.SET_OP_NEG, 1, 1L | 4L);
        check.planned("a fact in ADD and DEL", x, FOUND, 2, "0,1,", "");
    }

    private static void methodOrderAndCount() {
        HtnPlanner x = Samples.planner(4, 50, 20);
        Samples.method(x, 21, 9);
        int needsFact = Samples.method(x, 20, 1);
        x.setSet(HtnPlanner.SET_M_PRE, needsFact, 1L << 63);
        Samples.method(x, 21, 9);
        Samples.method(x, 20, 2);
        Samples.method(x, 20, 3);
        check.planned("the first applicable method", x, FOUND, 3, "2,", "3,");
        x.setSet(HtnPlanner.SET_INIT, 0, 1L << 63);
        check.planned("the first method", x, FOUND, 2, "1,", "1,");
        Samples.forbid(x, 1);
        Samples.forbid(x, 2);
        check.planned("the last method", x, FOUND, 6, "3,", "4,");
        Samples.forbid(x, 3);
        check.planned("no method", x, FAILED, 6, "", "");
    }

    private static void allMethodsForOneTask() {
        HtnPlanner x = Samples.planner(1, 100, 16);
        for (int m = 0; m < 32; m++) {
            Samples.method(x, 16, m < 31 ? 0 : 1);
        }
        Samples.forbid(x, 0);
        check.planned("the last of 32 methods", x, FOUND, 31 * 2 + 2, "1,", "31,");
        Samples.forbid(x, 1);
        check.planned("none of 32 methods", x, FAILED, 32 * 2, "", "");
    }

    private static void methodWithoutSubtasks() {
        HtnPlanner x = Samples.planner(2, 10, 16, 4, 16);
        Samples.method(x, 16);
        check.planned("empty methods", x, FOUND, 3, "4,", "0,0,");
    }

    private static void subtasksComeBeforeTheRest() {
        HtnPlanner x = Samples.planner(8, 50, 16, 8, 17);
        Samples.method(x, 16, 1, 17, 2, 18);
        Samples.method(x, 17, 3, 18);
        Samples.method(x, 18, 4, 5);
        check.planned("nested subtasks", x, FOUND, 11 + 6, "1,3,4,5,2,4,5,8,3,4,5,", "0,1,2,2,1,2,");
    }

    /** The first task's first method works by itself, but the second task needs the other one. */
    private static void backtracksIntoAnEarlierTask() {
        HtnPlanner x = Samples.planner(8, 50, 16, 17, 3);
        x.setSet(HtnPlanner.SET_INIT, 0, 16L);
        x.setSet(HtnPlanner.SET_OP_ADD, 0, 1L);
        x.setSet(HtnPlanner.SET_OP_DEL, 0, 16L);
        x.setSet(HtnPlanner.SET_OP_ADD, 1, 2L);
        x.setSet(HtnPlanner.SET_OP_PRE, 1, 16L);
        x.setSet(HtnPlanner.SET_OP_PRE, 2, 2L);
        x.setSet(HtnPlanner.SET_OP_NEG, 3, 1L);
        x.setSet(HtnPlanner.SET_OP_PRE, 3, 16L);
        Samples.method(x, 16, 0, 0);
        Samples.method(x, 16, 1, 4);
        Samples.method(x, 17, 5);
        Samples.method(x, 17, 2, 2);
        // 0 applies method 0 (1), 0 0 (3), method 2 (4), 5 (5), 3 fails (6),
        // method 3 (7), 2 fails (8); method 1 (9), 1 4 (11), method 2 (12), 5 3 (14).
        check.planned("an earlier task's other method", x, FOUND, 14, "1,4,5,3,", "1,2,");
    }

    private static void depthLimit() {
        for (int limit = 1; limit <= 16; limit++) {
            HtnPlanner x = Samples.planner(limit, 1024, 16);
            Samples.method(x, 16, 0, 16);
            check.planned("an endless method, depth " + limit, x, FAILED, 2 * limit + 1, "", "");
            Samples.method(x, 16);
            // The branch is full: both methods get their attempt there, then
            // the second one is applied one level up.
            String ops = "0,".repeat(limit - 1);
            check.planned("a way out, depth " + limit, x, FOUND, 2 * limit + 3,
                    ops, "0,".repeat(limit - 1) + "1,");
        }
    }

    private static void depthCountsSiblings() {
        HtnPlanner x = Samples.planner(2, 50, 16, 16, 16);
        Samples.method(x, 16, 7);
        Samples.method(x, 16, 8);
        // Three methods on one branch are one too many, wherever they nest.
        check.planned("three siblings at depth 2", x, FAILED, 2 * (2 + 2 * (2 + 2)), "", "");
        HtnPlanner y = Samples.planner(3, 50, 16, 16, 16);
        Samples.method(y, 16, 7);
        check.planned("three siblings at depth 3", y, FOUND, 6, "7,7,7,", "0,0,0,");
    }

    /** Eight initial tasks of four operators each fill the plan exactly. */
    private static void planLimit() {
        HtnPlanner x = Samples.planner(16, 1024, 16, 16, 16, 16, 16, 16, 16, 16);
        Samples.method(x, 16, 1, 2, 3, 4);
        check.planned("a full plan", x, FOUND, 40, "1,2,3,4,".repeat(8), "0,".repeat(8));
        HtnPlanner y = Samples.planner(16, 1024, 16, 16, 16, 16, 16, 16, 16, 17);
        Samples.method(y, 16, 1, 2, 3, 4);
        Samples.method(y, 17, 5, 5, 5, 18);
        Samples.method(y, 18, 6, 7);
        check.planned("a plan too long by one", y, FAILED, 7 * 5 + 4 + 3, "", "");
    }

    private static void planLimitBacktracks() {
        HtnPlanner x = Samples.planner(16, 1024, 16, 16, 16, 16, 16, 16, 16, 17);
        Samples.method(x, 16, 1, 2, 3, 4);
        Samples.method(x, 17, 5, 5, 5, 18);
        Samples.method(x, 18, 6, 7);
        Samples.method(x, 18, 8);
        Samples.method(x, 18, 9);
        check.planned("a full plan at the second try", x, FOUND, 7 * 5 + 4 + 3 + 2,
                "1,2,3,4,".repeat(7) + "5,5,5,8,", "0,".repeat(7) + "1,3,");
        HtnPlanner y = Samples.planner(16, 1024, 16, 16, 16, 16, 16, 16, 16, 17);
        Samples.method(y, 16, 1, 2, 3, 4);
        Samples.method(y, 17, 5, 5, 5, 18);
        Samples.method(y, 18, 6, 19);
        Samples.method(y, 19);
        check.planned("a method after a full plan", y, FOUND, 7 * 5 + 4 + 3,
                "1,2,3,4,".repeat(7) + "5,5,5,6,", "0,".repeat(7) + "1,2,3,");
    }

    private static void budgetEdges() {
        for (int budget = 1; budget <= 10; budget++) {
            HtnPlanner y = withBudget(Samples.solvable(), budget);
            if (budget < 8) {
                check.planned("the sample, budget " + budget, y, BUDGET, budget, "", "");
            } else {
                check.planned("the sample, budget " + budget, y, FOUND, 8, "0,2,1,", "1,2,");
            }
            HtnPlanner z = withBudget(Samples.failed(), budget);
            int made = budget < 7 ? budget : 7;
            check.planned("the failing sample, budget " + budget, z, budget < 7 ? BUDGET : FAILED, made, "", "");
        }
        HtnPlanner most = Samples.planner(16, 5000, 16, 16, 16);
        Samples.method(most, 16, 16, 16);
        Samples.method(most, 16, 16, 16);
        check.planned("the greatest budget", most, BUDGET, 1024, "", "");
    }

    /** The same domain and initial tasks with another budget. */
    private static HtnPlanner withBudget(HtnPlanner x, int budget) {
        HtnPlanner y = new HtnPlanner(x.getInfo(HtnPlanner.INFO_DEPTH_LIMIT), budget);
        for (int m = 0; m < x.getInfo(HtnPlanner.INFO_METHOD_COUNT); m++) {
            y.addMethod(x.getMethodEntry(m, 0));
            for (int k = 1; x.getMethodEntry(m, k) != -1; k++) {
                y.addSubtask(m, x.getMethodEntry(m, k));
            }
        }
        for (int which = 0; which <= 6; which++) {
            for (int index = 0; index < 32; index++) {
                y.setSet(which, index, x.getSet(which, index));
            }
        }
        for (int i = 0; x.getInitialTask(i) != -1; i++) {
            y.addInitialTask(x.getInitialTask(i));
        }
        return y;
    }

    private static void budgetUsedUpWithNoMethodLeft() {
        HtnPlanner x = Samples.planner(4, 2, 16);
        Samples.method(x, 16, 0);
        Samples.forbid(x, 0);
        check.planned("failure with the budget used up", x, FAILED, 2, "", "");
        Samples.method(x, 16, 1);
        check.planned("one more method than the budget", x, BUDGET, 2, "", "");
        HtnPlanner y = Samples.planner(4, 1, 0, 16);
        check.planned("no method, budget used up", y, FAILED, 1, "", "");
        HtnPlanner z = Samples.planner(4, 1, 0, 1);
        check.planned("an operator more than the budget", z, BUDGET, 1, "", "");
    }

    /** The longest chain of open tasks: eight initial ones and three more a method. */
    private static void longestChains() {
        HtnPlanner x = Samples.planner(16, 1024, 16, 1, 2, 3, 4, 5, 6, 7);
        Samples.method(x, 16, 16, 8, 9, 10);
        Samples.method(x, 16);
        // Its 15 * 3 operators are more than a plan takes, so the search goes
        // on to branches with fewer of them.
        String tail = "1,2,3,4,5,6,7,";
        check.due("plan() of the longest chain", x.plan(), FOUND);
        check.same("its plan", Check.plan(x), "8,9,10,".repeat(8) + tail);
        check.same("its decomposition", Check.decomposition(x), "0,".repeat(8) + "1,");
    }

    private static void resetsTheExecutorAndRepeats() {
        HtnPlanner x = Samples.halfExecuted();
        check.due("the position before", x.getInfo(HtnPlanner.INFO_EXEC_POS), 1);
        check.planned("a second search", x, FOUND, 8, "0,2,1,", "1,2,");
        x.addInitialTask(0);
        check.planned("a search of the changed domain", x, FAILED, 9, "", "");
        x.clearInitialTasks();
        check.planned("a search after a failure", x, FOUND, 0, "", "");
    }
}
