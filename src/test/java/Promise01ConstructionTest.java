/** Promise 1: the clamped limits and the fresh object. */
public final class Promise01ConstructionTest {
    private static final Check check = new Check();

    public static void main(String[] args) {
        limits(Integer.MIN_VALUE, Integer.MIN_VALUE, 1, 1);
        limits(-1, -1, 1, 1);
        limits(0, 0, 1, 1);
        limits(1, 1, 1, 1);
        limits(2, 2, 2, 2);
        limits(15, 1023, 15, 1023);
        limits(16, 1024, 16, 1024);
        limits(17, 1025, 16, 1024);
        limits(16, 16, 16, 16);
        limits(17, 17, 16, 17);
        limits(1024, 1, 16, 1);
        limits(0, 1024, 1, 1024);
        limits(Integer.MAX_VALUE, Integer.MAX_VALUE, 16, 1024);
        freshObject();
        freshOperatorsLeaveTheStateAsItIs();
        limitsStay();
        objectsShareNothing();
        check.end();
    }

    private static void limits(int depthLimit, int budget, int depthDue, int budgetDue) {
        HtnPlanner x = new HtnPlanner(depthLimit, budget);
        String made = "new HtnPlanner(" + depthLimit + ", " + budget + ")";
        check.due(made + " depth limit", x.getInfo(HtnPlanner.INFO_DEPTH_LIMIT), depthDue);
        check.due(made + " budget", x.getInfo(HtnPlanner.INFO_BUDGET), budgetDue);
    }

    private static void freshObject() {
        HtnPlanner x = new HtnPlanner(3, 7);
        StringBuilder operators = new StringBuilder("ops");
        for (int k = 0; k < 16; k++) {
            operators.append(" " + k + ":0,0,0,0,");
        }
        check.same("a fresh domain", Check.domain(x), operators
                + " methods 0 tasks 0:-1,-1,-1,-1,-1,-1,-1,-1, init 0 depth 3 budget 7");
        check.same("a fresh outcome", Check.outcome(x), Check.outcomeText(0, 0, "", "", 0, 0L));
    }

    private static void freshOperatorsLeaveTheStateAsItIs() {
        long[] states = {0L, -1L, Long.MIN_VALUE, 0x5555555555555555L};
        for (long state : states) {
            for (int k = 0; k < 16; k++) {
                HtnPlanner x = new HtnPlanner(1, 1);
                x.setSet(HtnPlanner.SET_INIT, 0, state);
                x.addInitialTask(k);
                check.due("plan() of fresh operator " + k, x.plan(), HtnPlanner.PLAN_FOUND);
                check.due("executeStep()", x.executeStep(), k);
                check.due("getExecState()", x.getExecState(), state);
            }
        }
    }

    private static void limitsStay() {
        HtnPlanner x = Samples.halfExecuted();
        x.clearInitialTasks();
        x.plan();
        x.addMethod(31);
        x.setSet(HtnPlanner.SET_INIT, 0, -1L);
        check.due("depth limit after calls", x.getInfo(HtnPlanner.INFO_DEPTH_LIMIT), Samples.DEPTH_LIMIT);
        check.due("budget after calls", x.getInfo(HtnPlanner.INFO_BUDGET), Samples.BUDGET);
    }

    private static void objectsShareNothing() {
        HtnPlanner x = Samples.halfExecuted();
        String before = Check.all(x);
        HtnPlanner y = new HtnPlanner(2, 2);
        y.setSet(HtnPlanner.SET_OP_ADD, 0, 77L);
        y.addMethod(20);
        y.addInitialTask(3);
        y.plan();
        check.same("one object after calls on another", Check.all(x), before);
    }
}
