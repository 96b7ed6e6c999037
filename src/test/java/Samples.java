/** Planners that tests start from. */
final class Samples {
    static final int DEPTH_LIMIT = 5;
    static final int BUDGET = 40;

    private Samples() {
    }

    /** Facts on both ends of the long; method 0 fails, method 1 gives the plan 0, 2, 1. */
    static HtnPlanner solvable() {
        HtnPlanner x = new HtnPlanner(DEPTH_LIMIT, BUDGET);
        x.setSet(HtnPlanner.SET_OP_PRE, 0, 1L);
        x.setSet(HtnPlanner.SET_OP_DEL, 0, 1L);
        x.setSet(HtnPlanner.SET_OP_ADD, 0, 2L);
        x.setSet(HtnPlanner.SET_OP_PRE, 1, 4L);
        x.setSet(HtnPlanner.SET_OP_ADD, 1, 8L);
        x.setSet(HtnPlanner.SET_OP_PRE, 2, 2L | Long.MIN_VALUE);
        x.setSet(HtnPlanner.SET_OP_NEG, 2, 1L);
        x.setSet(HtnPlanner.SET_OP_ADD, 2, 4L);
        x.setSet(HtnPlanner.SET_INIT, 0, 1L | Long.MIN_VALUE);
        x.addMethod(16);
        x.addSubtask(0, 0);
        x.addSubtask(0, 1);
        x.addMethod(16);
        x.addSubtask(1, 0);
        x.addSubtask(1, 17);
        x.addMethod(17);
        x.addSubtask(2, 2);
        x.setSet(HtnPlanner.SET_M_PRE, 2, 2L);
        x.setSet(HtnPlanner.SET_M_NEG, 2, 8L);
        x.addInitialTask(16);
        x.addInitialTask(1);
        return x;
    }

    /** With a plan found, and the first of its three steps carried out. */
    static HtnPlanner halfExecuted() {
        HtnPlanner x = solvable();
        x.plan();
        x.executeStep();
        return x;
    }

    /** With a search that ended in PLAN_FAILED. */
    static HtnPlanner failed() {
        HtnPlanner x = solvable();
        x.setSet(HtnPlanner.SET_OP_PRE, 2, 64L);
        x.plan();
        return x;
    }

    /** With a search that ended in PLAN_BUDGET: task 16 applies method 0 on and on. */
    static HtnPlanner outOfBudget() {
        HtnPlanner x = new HtnPlanner(16, 3);
        x.setSet(HtnPlanner.SET_INIT, 0, 9L);
        x.addMethod(16);
        x.addSubtask(0, 5);
        x.addSubtask(0, 16);
        x.addInitialTask(16);
        x.plan();
        return x;
    }
}
