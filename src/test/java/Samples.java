import java.util.LinkedHashMap;
import java.util.Map;

/** Planners that tests start from. */
final class Samples {
    static final int DEPTH_LIMIT = 5;
    static final int BUDGET = 40;

    private Samples() {
    }

    static HtnPlanner planner(int depthLimit, int budget, int... initialTasks) {
        HtnPlanner x = new HtnPlanner(depthLimit, budget);
        for (int task : initialTasks) {
            x.addInitialTask(task);
        }
        return x;
    }

    static int method(HtnPlanner x, int task, int... subtasks) {
        int m = x.addMethod(task);
        for (int subtask : subtasks) {
            x.addSubtask(m, subtask);
        }
        return m;
    }

    /** Makes an operator applicable in no state. */
    static void forbid(HtnPlanner x, int op) {
        x.setSet(HtnPlanner.SET_OP_PRE, op, 1L);
        x.setSet(HtnPlanner.SET_OP_NEG, op, 1L);
    }

    static HtnPlanner solvable() {
        return solvable(BUDGET);
    }

    /**
     * Facts on both ends of the long; method 0 fails, and with 8 attempts
     * method 1 gives the plan 0, 2, 1.
     */
    static HtnPlanner solvable(int budget) {
        HtnPlanner x = new HtnPlanner(DEPTH_LIMIT, budget);
        x.setSet(HtnPlanner.SET_OP_PRE, 0, 1L);
        x.setSet(HtnPlanner.SET_OP_DEL, 0, 1L);
        x.setSet(HtnPlanner.SET_OP_ADD, 0, 2L);
        x.setSet(HtnPlanner.SET_OP_PRE, 1, 4L);
        x.setSet(HtnPlanner.SET_OP_ADD, 1, 8L);
        x.setSet(HtnPlanner.SET_OP_PRE, 2, 2L | Long.MIN_VALUE);
        x.setSet(HtnPlanner.SET_OP_NEG, 2, 1L);
        x.setSet(HtnPlanner.SET_OP_ADD, 2, 4L);
        x.setSet(HtnPlanner.SET_INIT, 0, 1L | Long.MIN_VALUE);
        x.addMethod(16);
        x.addSubtask(0, 0);
        x.addSubtask(0, 1);
        x.addMethod(16);
        x.addSubtask(1, 0);
        x.addSubtask(1, 17);
        x.addMethod(17);
        x.addSubtask(2, 2);
        x.setSet(HtnPlanner.SET_M_PRE, 2, 2L);
        x.setSet(HtnPlanner.SET_M_NEG, 2, 8L);
        x.addInitialTask(16);
        x.addInitialTask(1);
        return x;
    }

    /** With a plan found, and the first of its three steps carried out. */
    static HtnPlanner halfExecuted() {
        HtnPlanner x = solvable();
        x.plan();
        x.executeStep();
        return x;
    }

    /** With a search that ended in PLAN_FAILED. */
    static HtnPlanner failed() {
        HtnPlanner x = solvable();
        x.setSet(HtnPlanner.SET_OP_PRE, 2, 64L);
        x.plan();
        return x;
    }

    /** With a search that ended in PLAN_BUDGET: task 16 applies method 0 on and on. */
    static HtnPlanner outOfBudget() {
        HtnPlanner x = new HtnPlanner(16, 3);
        x.setSet(HtnPlanner.SET_INIT, 0, 9L);
        x.addMethod(16);
        x.addSubtask(0, 5);
        x.addSubtask(0, 16);
        x.addInitialTask(16);
        x.plan();
        return x;
    }

    /** Every status and place of the executor, each with 3 methods and 2 initial tasks. */
    static Map<String, HtnPlanner> inEveryStatus() {
        Map<String, HtnPlanner> samples = new LinkedHashMap<>();
        samples.put("no search", solvable());
        HtnPlanner found = solvable();
        found.plan();
        samples.put("found", found);
        samples.put("half executed", halfExecuted());
        HtnPlanner executed = halfExecuted();
        executed.executeStep();
        executed.executeStep();
        samples.put("executed", executed);
        samples.put("failed", failed());
        HtnPlanner stopped = solvable(3);
        stopped.plan();
        samples.put("out of budget", stopped);
        return samples;
    }

    /** All methods with all subtasks, all initial tasks, and a full plan with two steps carried out. */
    static HtnPlanner full() {
        HtnPlanner x = planner(16, 1024, 16, 17, 18, 19, 20, 21, 22, 23);
        for (int m = 0; m < HtnPlanner.MAX_METHODS; m++) {
            int op = m % 12;
            method(x, 16 + m % 16, op, op + 1, op + 2, op + 3);
        }
        for (int op = 0; op < HtnPlanner.NUM_OPS; op++) {
            x.setSet(HtnPlanner.SET_OP_ADD, op, 1L << op);
        }
        x.plan();
        x.executeStep();
        x.executeStep();
        return x;
    }
}
