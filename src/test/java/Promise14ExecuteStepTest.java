/** Promise 14: executeStep. */
public final class Promise14ExecuteStepTest {
    private static final Check check = new Check();

    public static void main(String[] args) {
        replay();
        withoutPlan("fresh", new HtnPlanner(1, 1));
        withoutPlan("without a search", Samples.solvable());
        withoutPlan("failed", Samples.failed());
        withoutPlan("out of budget", Samples.outOfBudget());
        HtnPlanner dropped = Samples.halfExecuted();
        dropped.setSet(HtnPlanner.SET_OP_PRE, 2, 1L << 40);
        withoutPlan("after DISCARD", dropped);
        emptyPlan();
        addWinsOverDelete();
        fullPlan();
        check.end();
    }

    /** Three steps from state 1 + fact 63, each with the state due after it. */
    private static void replay() {
        long sign = Long.MIN_VALUE;
        HtnPlanner x = Samples.solvable();
        x.plan();
        String domain = Check.domain(x);
        for (int time = 0; time < 2; time++) {
            step(x, 0, 1, sign | 2L);
            step(x, 2, 2, sign | 6L);
            step(x, 1, 3, sign | 14L);
            step(x, HtnPlanner.EXEC_DONE, 3, sign | 14L);
            step(x, HtnPlanner.EXEC_DONE, 3, sign | 14L);
            check.same("the domain after executeStep()", Check.domain(x), domain);
            x.resetExecutor();
        }
    }

    private static void step(HtnPlanner x, int answer, int position, long state) {
        check.due("executeStep()", x.executeStep(), answer);
        check.same("the outcome after a step", Check.outcome(x),
                Check.outcomeText(HtnPlanner.PLAN_FOUND, 8, "0,2,1,", "1,2,", position, state));
    }

    private static void withoutPlan(String name, HtnPlanner x) {
        String all = Check.all(x);
        for (int time = 0; time < 2; time++) {
            check.due("executeStep(), " + name, x.executeStep(), HtnPlanner.EXEC_DONE);
            check.same("all after executeStep(), " + name, Check.all(x), all);
        }
    }

    private static void emptyPlan() {
        HtnPlanner x = new HtnPlanner(1, 1);
        x.setSet(HtnPlanner.SET_INIT, 0, 5L);
        x.plan();
        withoutPlan("an empty plan", x);
    }

    private static void addWinsOverDelete() {
        HtnPlanner x = new HtnPlanner(1, 9);
        x.setSet(HtnPlanner.SET_INIT, 0, 3L | 16L | 32L);
        x.setSet(HtnPlanner.SET_OP_DEL, 15, 7L);
        x.setSet(HtnPlanner.SET_OP_ADD, 15, 2L | 8L | 16L);
        x.addInitialTask(15);
        x.plan();
        check.due("executeStep()", x.executeStep(), 15L);
        check.due("getExecState()", x.getExecState(), 2L | 8L | 16L | 32L);
    }

    private static void fullPlan() {
        HtnPlanner x = new HtnPlanner(8, 1024);
        x.addMethod(16);
        for (int op = 0; op < 4; op++) {
            x.addSubtask(0, op);
        }
        for (int i = 0; i < 8; i++) {
            x.addInitialTask(16);
        }
        x.plan();
        for (int i = 0; i < 32; i++) {
            check.due("executeStep() number " + i, x.executeStep(), i % 4);
            check.due("the position", x.getInfo(HtnPlanner.INFO_EXEC_POS), i + 1);
        }
        check.due("executeStep() at the end", x.executeStep(), HtnPlanner.EXEC_DONE);
    }
}
