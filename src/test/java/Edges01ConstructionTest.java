/** Promise 1, construction: a test for each sentence with an edge. */
public final class Edges01ConstructionTest {
    private static final Check check = new Check();

    public static void main(String[] args) {
        check.sentence("`new HtnPlanner(depthLimit, budget)` never fails, whatever the arguments.",
                Edges01ConstructionTest::neverFails);
        check.sentence("depthLimit: below 1 (including any negative value) becomes 1",
                Edges01ConstructionTest::depthLimitTooSmall);
        check.sentence("depthLimit: above 16 becomes 16", Edges01ConstructionTest::depthLimitTooLarge);
        check.sentence("depthLimit: values in 1..16 are kept", Edges01ConstructionTest::depthLimitKept);
        check.sentence("budget: below 1 becomes 1", Edges01ConstructionTest::budgetTooSmall);
        check.sentence("budget: above 1024 becomes 1024", Edges01ConstructionTest::budgetTooLarge);
        check.sentence("budget: values in 1..1024 are kept", Edges01ConstructionTest::budgetKept);
        check.sentence("Both clamped values never change afterwards.", Edges01ConstructionTest::limitsStay);
        check.sentence("all operator sets 0, so every operator is applicable everywhere and leaves the state "
                + "unchanged;", Edges01ConstructionTest::freshOperators);
        check.sentence("no methods (methodCount 0) and no initial tasks;",
                Edges01ConstructionTest::noMethodsAndNoTasks);
        check.sentence("initial state 0;", () ->
                check.due("the initial state", fresh().getSet(HtnPlanner.SET_INIT, 0), 0L));
        check.sentence("status `STATUS_NONE`;", () ->
                check.due("the status", fresh().getInfo(HtnPlanner.INFO_STATUS), HtnPlanner.STATUS_NONE));
        check.sentence("plan and decomposition empty;", Edges01ConstructionTest::nothingPlanned);
        check.sentence("expansions 0;", () ->
                check.due("the expansions", fresh().getInfo(HtnPlanner.INFO_EXPANSIONS), 0L));
        check.sentence("executor state 0 and executor position 0.", Edges01ConstructionTest::executorAtStart);
        check.end();
    }

    private static HtnPlanner fresh() {
        return new HtnPlanner(16, 1024);
    }

    private static void neverFails() {
        for (int depthLimit : Edges.outside(1, 16)) {
            for (int budget : Edges.outside(1, 1024)) {
                HtnPlanner x = new HtnPlanner(depthLimit, budget);
                String made = "of new HtnPlanner(" + depthLimit + ", " + budget + ")";
                check.due("plan() " + made, x.plan(), HtnPlanner.PLAN_FOUND);
            }
        }
    }

    /** Both what is told, and where the search stops: task 16 takes limit + 1 methods. */
    private static void depthLimit(int argument, int due) {
        HtnPlanner x = Samples.planner(argument, 1024, 16);
        String made = "of depth limit " + argument;
        check.due("getInfo " + made, x.getInfo(HtnPlanner.INFO_DEPTH_LIMIT), due);
        Samples.method(x, 16, 16);
        check.planned("a search " + made, x, HtnPlanner.PLAN_FAILED, due + 1, "", "");
        Samples.method(x, 16);
        x.plan();
        check.due("the methods " + made, x.getInfo(HtnPlanner.INFO_DECOMP_LENGTH), due);
    }

    private static void depthLimitTooSmall() {
        for (int argument : Edges.below(1)) {
            depthLimit(argument, 1);
        }
    }

    private static void depthLimitTooLarge() {
        for (int argument : Edges.above(16)) {
            depthLimit(argument, 16);
        }
    }

    private static void depthLimitKept() {
        for (int argument = 1; argument <= 16; argument++) {
            depthLimit(argument, argument);
        }
    }

    /** Both what is told, and where an endless search stops. */
    private static void budget(int argument, int due) {
        HtnPlanner x = Samples.planner(16, argument, 16);
        String made = "of budget " + argument;
        check.due("getInfo " + made, x.getInfo(HtnPlanner.INFO_BUDGET), due);
        Samples.method(x, 16, 16);
        Samples.method(x, 16, 16);
        check.planned("a search " + made, x, HtnPlanner.PLAN_BUDGET, due, "", "");
    }

    private static void budgetTooSmall() {
        for (int argument : Edges.below(1)) {
            budget(argument, 1);
        }
    }

    private static void budgetTooLarge() {
        for (int argument : Edges.above(1024)) {
            budget(argument, 1024);
        }
    }

    private static void budgetKept() {
        for (int argument = 1; argument <= 1024; argument++) {
            budget(argument, argument);
        }
    }

    private static void limitsStay() {
        for (HtnPlanner x : new HtnPlanner[] {new HtnPlanner(-3, 5000), new HtnPlanner(99, 0)}) {
            int depthLimit = x.getInfo(HtnPlanner.INFO_DEPTH_LIMIT);
            int budget = x.getInfo(HtnPlanner.INFO_BUDGET);
            callEverything(x);
            check.due("the depth limit afterwards", x.getInfo(HtnPlanner.INFO_DEPTH_LIMIT), depthLimit);
            check.due("the budget afterwards", x.getInfo(HtnPlanner.INFO_BUDGET), budget);
        }
    }

    private static void callEverything(HtnPlanner x) {
        x.addMethod(16);
        x.addSubtask(0, 16);
        for (int which = -1; which <= 8; which++) {
            x.setSet(which, 0, 0L);
            x.getSet(which, 0);
        }
        x.addInitialTask(16);
        x.plan();
        x.clearInitialTasks();
        x.addInitialTask(0);
        x.plan();
        x.executeStep();
        x.executeStep();
        x.resetExecutor();
        Check.all(x);
    }

    private static void freshOperators() {
        for (int op = 0; op < 16; op++) {
            for (int which = HtnPlanner.SET_OP_PRE; which <= HtnPlanner.SET_OP_DEL; which++) {
                check.due("getSet(" + which + ", " + op + ")", fresh().getSet(which, op), 0L);
            }
            for (long state : Edges.states()) {
                HtnPlanner x = Samples.planner(1, 1, op);
                x.setSet(HtnPlanner.SET_INIT, 0, state);
                check.due("plan() in " + state, x.plan(), HtnPlanner.PLAN_FOUND);
                check.due("executeStep() in " + state, x.executeStep(), op);
                check.due("the state after operator " + op, x.getExecState(), state);
            }
        }
    }

    private static void noMethodsAndNoTasks() {
        HtnPlanner x = fresh();
        check.due("the method count", x.getInfo(HtnPlanner.INFO_METHOD_COUNT), 0L);
        check.due("the initial count", x.getInfo(HtnPlanner.INFO_INITIAL_COUNT), 0L);
        for (int i = 0; i < 32; i++) {
            check.due("getMethodEntry(" + i + ", 0)", x.getMethodEntry(i, 0), -1L);
            check.due("getInitialTask(" + i + ")", x.getInitialTask(i), -1L);
        }
    }

    private static void nothingPlanned() {
        HtnPlanner x = fresh();
        check.due("the plan length", x.getInfo(HtnPlanner.INFO_PLAN_LENGTH), 0L);
        check.due("the decomposition length", x.getInfo(HtnPlanner.INFO_DECOMP_LENGTH), 0L);
        for (int i = 0; i < 32; i++) {
            check.due("getPlanStep(" + i + ")", x.getPlanStep(i), -1L);
            check.due("getDecompMethod(" + i + ")", x.getDecompMethod(i), -1L);
        }
    }

    private static void executorAtStart() {
        check.due("the executor state", fresh().getExecState(), 0L);
        check.due("the executor position", fresh().getInfo(HtnPlanner.INFO_EXEC_POS), 0L);
    }
}
