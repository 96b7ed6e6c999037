import java.util.function.IntFunction;

/** Promise 10, plan, its outcome and the consequences: a test for each sentence with an edge. */
public final class Edges10OutcomeTest {
    private static final Check check = new Check();
    private static final int FOUND = HtnPlanner.PLAN_FOUND;
    private static final int FAILED = HtnPlanner.PLAN_FAILED;
    private static final int BUDGET = HtnPlanner.PLAN_BUDGET;

    public static void main(String[] args) {
        check.sentence("On success: status `PLAN_FOUND`, plan = P, decomposition = D (the method indices in the "
                + "order they were applied on the successful branch).", Edges10OutcomeTest::success);
        check.sentence("On failure: status `PLAN_FAILED`.", Edges10OutcomeTest::failure);
        check.sentence("On a budget stop: status `PLAN_BUDGET`.", Edges10OutcomeTest::budgetStop);
        check.sentence("On failure or budget stop, plan and decomposition are empty.",
                Edges10OutcomeTest::emptyWithoutPlan);
        check.sentence("In all cases expansions = the final E, executor state = initial state and executor position "
                + "0.", Edges10OutcomeTest::executorAtTheStart);
        check.sentence("The answer is the status.", Edges10OutcomeTest::answerIsTheStatus);
        check.sentence("An empty initial task list gives `PLAN_FOUND` with an empty plan, an empty decomposition and "
                + "expansions 0.", Edges10OutcomeTest::emptyTaskList);
        check.sentence("Expansions never exceed the budget, and equal it after `PLAN_BUDGET`.",
                Edges10OutcomeTest::everyBudget);
        check.sentence("`PLAN_FOUND` and `PLAN_FAILED` are also possible with expansions equal to the budget.",
                Edges10OutcomeTest::endedByTheLastAttempt);
        check.sentence("A found plan has at most `MAX_PLAN` operators, and its decomposition has at most depthLimit "
                + "methods.", Edges10OutcomeTest::longestAndDeepest);
        check.sentence("With an unchanged domain, repeated calls give the same status, plan, decomposition and "
                + "expansions.", Edges10OutcomeTest::repeatedCalls);
        check.sentence("`plan()` does not change the operators, the methods, the initial task list, the initial "
                + "state, the depth limit or the budget.", Edges10OutcomeTest::domainStays);
        check.end();
    }

    /** Methods 1 and 3 are given up on the way, after they were applied. */
    private static void success() {
        HtnPlanner x = Samples.planner(16, 1024, 16, 17);
        Samples.forbid(x, 0);
        Samples.method(x, 17, 5);
        Samples.method(x, 16, 1, 18, 0);
        Samples.method(x, 16, 2, 18);
        Samples.method(x, 18, 3, 0);
        Samples.method(x, 18, 4);
        check.planned("methods given up on the way", x, FOUND, 2 + 3 + 3 + 2 + 3 + 2 + 2, "2,4,5,", "2,4,0,");
    }

    private static void failure() {
        check.due("plan() of a failing search", Samples.failed().plan(), FAILED);
        HtnPlanner noMethod = Samples.planner(16, 1024, 16);
        check.due("plan() of a task without a method", noMethod.plan(), FAILED);
        HtnPlanner tooDeep = Samples.planner(16, 1024, 16);
        Samples.method(tooDeep, 16, 16);
        check.due("plan() of a task that is too deep", tooDeep.plan(), FAILED);
        HtnPlanner tooLong = Samples.planner(16, 1024, 16, 16, 16, 16, 16, 16, 16, 17);
        Samples.method(tooLong, 16, 1, 1, 1, 1);
        Samples.method(tooLong, 17, 16, 1);
        check.due("plan() of a task that is too long", tooLong.plan(), FAILED);
    }

    private static void budgetStop() {
        for (int budget = 1; budget < 8; budget++) {
            check.due("plan() with budget " + budget, Samples.solvable(budget).plan(), BUDGET);
        }
        check.due("plan() with budget 8", Samples.solvable(8).plan(), FOUND);
    }

    private static void noPlan(String name, HtnPlanner x) {
        x.plan();
        check.due("the plan length, " + name, x.getInfo(HtnPlanner.INFO_PLAN_LENGTH), 0L);
        check.due("the decomposition length, " + name, x.getInfo(HtnPlanner.INFO_DECOMP_LENGTH), 0L);
        for (int i = 0; i < 33; i++) {
            check.due("getPlanStep(" + i + "), " + name, x.getPlanStep(i), -1L);
            check.due("getDecompMethod(" + i + "), " + name, x.getDecompMethod(i), -1L);
        }
    }

    /** The search has operators and methods on its branch when it ends. */
    private static void emptyWithoutPlan() {
        HtnPlanner failing = Samples.planner(16, 1024, 1, 2, 3, 0);
        Samples.forbid(failing, 0);
        noPlan("failed after operators", failing);
        HtnPlanner stopped = Samples.planner(16, 20, 16);
        Samples.method(stopped, 16, 1, 16);
        noPlan("stopped after operators and methods", stopped);
        HtnPlanner afterPlan = Samples.halfExecuted();
        afterPlan.addInitialTask(0);
        noPlan("failed after a plan", afterPlan);
    }

    private static void executorAtTheStart() {
        Samples.inEveryStatus().forEach((name, x) -> {
            x.plan();
            check.due("getExecState() after plan(), " + name, x.getExecState(), 1L | Long.MIN_VALUE);
            check.due("the position after plan(), " + name, x.getInfo(HtnPlanner.INFO_EXEC_POS), 0L);
            int expansions = name.equals("failed") ? 7 : name.equals("out of budget") ? 3 : 8;
            check.due("the expansions, " + name, x.getInfo(HtnPlanner.INFO_EXPANSIONS), expansions);
        });
    }

    private static void answerIsTheStatus() {
        Samples.inEveryStatus().forEach((name, x) -> {
            int status = name.equals("failed") ? FAILED : name.equals("out of budget") ? BUDGET : FOUND;
            check.due("plan(), " + name, x.plan(), status);
            check.due("the status, " + name, x.getInfo(HtnPlanner.INFO_STATUS), status);
        });
    }

    private static void emptyTaskList() {
        check.planned("a fresh object", new HtnPlanner(1, 1), FOUND, 0, "", "");
        Samples.inEveryStatus().forEach((name, x) -> {
            x.clearInitialTasks();
            check.planned("no tasks, " + name, x, FOUND, 0, "", "");
        });
        HtnPlanner full = Samples.full();
        full.clearInitialTasks();
        check.planned("no tasks with every method", full, FOUND, 0, "", "");
    }

    private static HtnPlanner failing(int budget) {
        HtnPlanner x = Samples.solvable(budget);
        x.setSet(HtnPlanner.SET_OP_PRE, 2, 64L);
        return x;
    }

    /** The plan is full before the depth limit is reached. */
    private static HtnPlanner tooLong(int budget) {
        HtnPlanner x = Samples.planner(16, budget, 16, 16);
        Samples.method(x, 16, 1, 1, 1, 16);
        return x;
    }

    private static HtnPlanner wayOutAtGreatestDepth(int budget) {
        HtnPlanner x = Samples.planner(16, budget, 16);
        Samples.method(x, 16, 16);
        Samples.method(x, 16, 7);
        return x;
    }

    private static void underEveryBudget(IntFunction<HtnPlanner> made, int needed, int status,
            String plan, String decomposition) {
        for (int budget = 1; budget <= needed + 2; budget++) {
            String name = "a search of " + needed + " attempts with budget " + budget;
            if (budget < needed) {
                check.planned(name, made.apply(budget), BUDGET, budget, "", "");
            } else {
                check.planned(name, made.apply(budget), status, needed, plan, decomposition);
            }
        }
    }

    private static void everyBudget() {
        underEveryBudget(Samples::solvable, 8, FOUND, "0,2,1,", "1,2,");
        underEveryBudget(Edges10OutcomeTest::failing, 7, FAILED, "", "");
        // Ten methods with three operators each, then a method and two operators fill the plan.
        underEveryBudget(Edges10OutcomeTest::tooLong, 10 * 4 + 4, FAILED, "", "");
        underEveryBudget(Edges10OutcomeTest::wayOutAtGreatestDepth, 16 + 2 + 1 + 1, FOUND,
                "7,", "0,".repeat(15) + "1,");
    }

    private static void endedByTheLastAttempt() {
        check.planned("found by the last attempt", Samples.solvable(8), FOUND, 8, "0,2,1,", "1,2,");
        check.planned("failed by the last attempt", failing(7), FAILED, 7, "", "");
        HtnPlanner least = Samples.planner(1, 1, 15);
        check.planned("found by the only attempt", least, FOUND, 1, "15,", "");
        Samples.forbid(least, 15);
        check.planned("failed by the only attempt", least, FAILED, 1, "", "");
        HtnPlanner most = longestSearch(1024);
        check.planned("found by attempt 1024", most, FOUND, 1024, "1,".repeat(6), "30,");
        most.setSet(HtnPlanner.SET_M_PRE, 30, 1L);
        check.planned("failed by attempt 1024", most, FAILED, 1024, "", "");
        most.addMethod(16);
        check.planned("one attempt more than 1024", most, BUDGET, 1024, "", "");
        check.planned("one attempt less than 1024", longestSearch(1023), BUDGET, 1023, "", "");
    }

    /** Six operators, nine methods of 1 + 8 * (1 + 13) attempts that fail, and one that succeeds. */
    private static HtnPlanner longestSearch(int budget) {
        HtnPlanner x = Samples.planner(16, budget, 1, 1, 1, 1, 1, 1, 16);
        for (int i = 0; i < 9; i++) {
            Samples.method(x, 16, 17);
        }
        for (int i = 0; i < 8; i++) {
            Samples.method(x, 17, 18);
        }
        for (int i = 0; i < 13; i++) {
            int m = Samples.method(x, 18);
            x.setSet(HtnPlanner.SET_M_PRE, m, 1L);
        }
        Samples.method(x, 16);
        return x;
    }

    private static void longestAndDeepest() {
        check.due("a full plan", Samples.full().getInfo(HtnPlanner.INFO_PLAN_LENGTH), 32L);
        HtnPlanner x = Samples.planner(16, 1024, 16);
        Samples.method(x, 16, 1, 1, 1, 16);
        Samples.method(x, 16);
        // The eleventh method has room for two of its three operators.
        check.planned("a plan cut back", x, FOUND, 10 * 4 + 4 + 1, "1,".repeat(30), "0,".repeat(10) + "1,");
        for (int limit = 1; limit <= 16; limit++) {
            HtnPlanner y = Samples.planner(limit, 1024, 16);
            Samples.method(y, 16, 16);
            Samples.method(y, 16);
            y.plan();
            check.due("the decomposition at limit " + limit, y.getInfo(HtnPlanner.INFO_DECOMP_LENGTH), limit);
        }
    }

    private static void repeatedCalls() {
        Samples.inEveryStatus().forEach((name, x) -> {
            x.plan();
            String first = Check.outcome(x);
            x.executeStep();
            x.setSet(-1, 0, 5L);
            x.addMethod(15);
            x.plan();
            check.same("the second outcome, " + name, Check.outcome(x), first);
            x.resetExecutor();
            x.setSet(HtnPlanner.SET_OP_ADD, 15, x.getSet(HtnPlanner.SET_OP_ADD, 15));
            x.plan();
            check.same("the third outcome, " + name, Check.outcome(x), first);
        });
    }

    private static void domainStays() {
        Samples.inEveryStatus().forEach((name, x) -> {
            String before = Check.domain(x);
            x.plan();
            check.same("the domain after plan(), " + name, Check.domain(x), before);
        });
        HtnPlanner full = Samples.full();
        String before = Check.domain(full);
        full.plan();
        check.same("the full domain after plan()", Check.domain(full), before);
    }
}
