/** Promise 15: getExecState. */
public final class Promise15GetExecStateTest {
    private static final Check check = new Check();

    public static void main(String[] args) {
        HtnPlanner x = Samples.halfExecuted();
        String all = Check.all(x);
        check.due("getExecState()", x.getExecState(), Long.MIN_VALUE | 2L);
        check.due("getExecState() again", x.getExecState(), Long.MIN_VALUE | 2L);
        check.same("all after getExecState()", Check.all(x), all);
        atTheStart("fresh", new HtnPlanner(1, 1), 0L);
        atTheStart("without a search", Samples.solvable(), Long.MIN_VALUE | 1L);
        atTheStart("failed", Samples.failed(), Long.MIN_VALUE | 1L);
        atTheStart("out of budget", Samples.outOfBudget(), 9L);
        x.setSet(HtnPlanner.SET_OP_ADD, 9, 1L);
        atTheStart("after DISCARD", x, Long.MIN_VALUE | 1L);
        x.setSet(HtnPlanner.SET_INIT, 0, -7L);
        atTheStart("after SET_INIT", x, -7L);
        searchThatFailsAfterSteps();
        check.end();
    }

    private static void searchThatFailsAfterSteps() {
        HtnPlanner x = Samples.halfExecuted();
        x.addInitialTask(0);
        x.plan();
        check.due("the status", x.getInfo(HtnPlanner.INFO_STATUS), HtnPlanner.PLAN_FAILED);
        atTheStart("failed after a plan", x, Long.MIN_VALUE | 1L);
    }

    private static void atTheStart(String name, HtnPlanner x, long state) {
        check.due("getExecState(), " + name, x.getExecState(), state);
        check.due("the initial state, " + name, x.getSet(HtnPlanner.SET_INIT, 0), state);
        check.due("the position, " + name, x.getInfo(HtnPlanner.INFO_EXEC_POS), 0L);
    }
}
