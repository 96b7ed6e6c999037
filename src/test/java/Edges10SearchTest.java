/** Promise 10, plan, its attempts and Solve: a test for each sentence with an edge. */
public final class Edges10SearchTest {
    private static final Check check = new Check();
    private static final int FOUND = HtnPlanner.PLAN_FOUND;
    private static final int FAILED = HtnPlanner.PLAN_FAILED;
    private static final int BUDGET = HtnPlanner.PLAN_BUDGET;

    public static void main(String[] args) {
        check.sentence("`plan()` searches for a plan for the initial task list from the initial state, with the "
                + "domain as it is now.", Edges10SearchTest::domainAsItIsNow);
        check.sentence("It is never refused and may be called in any status, any number of times.",
                Edges10SearchTest::inAnyStatus);
        check.sentence("if E == budget, the whole search stops at once with `PLAN_BUDGET`;",
                Edges10SearchTest::budgetReached);
        check.sentence("1. If T is empty: success with (P, D).", Edges10SearchTest::emptyWithNothingLeft);
        check.sentence("3. If t is in 0..15: make one ATTEMPT.", Edges10SearchTest::firstAndLastOperators);
        check.sentence("If operator t is applicable in S and length(P) < `MAX_PLAN`, the result is "
                + "Solve(apply(t, S), R, P + [t], D). Otherwise the result is failure.",
                Edges10SearchTest::planFull);
        check.sentence("The attempt is counted even when it fails.", Edges10SearchTest::failedOperatorCounts);
        check.sentence("4. If t is in 16..31: go through each method m whose task is t, in ascending index order",
                Edges10SearchTest::firstAndLastMethods);
        check.sentence("if m is applicable in S and length(D) < depthLimit, let r = "
                + "Solve(S, subtasks(m) followed by R, P, D + [m]);", Edges10SearchTest::depthReached);
        check.sentence("An attempt is counted for every method actually reached in this loop, even when it is not "
                + "applicable or the depth limit is reached.", Edges10SearchTest::failedMethodCounts);
        check.sentence("Once a method gives success the loop ends, and the later methods get no attempt.",
                Edges10SearchTest::laterMethodsGetNone);
        check.sentence("When no method gives success, the result is failure.", Edges10SearchTest::noMethodLeft);
        check.sentence("This includes the case where t has no method; then failure comes with no attempt.",
                Edges10SearchTest::taskWithoutMethod);
        check.sentence("A budget stop ends the whole search immediately, wherever it happens; no further "
                + "alternatives are tried.", Edges10SearchTest::noAlternativeAfterTheBudget);
        check.end();
    }

    private static void domainAsItIsNow() {
        HtnPlanner x = Samples.planner(4, 50, 16);
        check.planned("a task without a method", x, FAILED, 0, "", "");
        x.addMethod(16);
        check.planned("with a method", x, FOUND, 1, "", "0,");
        x.addSubtask(0, 3);
        check.planned("with a subtask", x, FOUND, 2, "3,", "0,");
        x.setSet(HtnPlanner.SET_OP_PRE, 3, Long.MIN_VALUE);
        check.planned("with PRE", x, FAILED, 2, "", "");
        x.setSet(HtnPlanner.SET_INIT, 0, Long.MIN_VALUE);
        check.planned("with an initial state", x, FOUND, 2, "3,", "0,");
        x.setSet(HtnPlanner.SET_OP_NEG, 3, Long.MIN_VALUE);
        check.planned("with NEG", x, FAILED, 2, "", "");
        x.setSet(HtnPlanner.SET_OP_NEG, 3, 0L);
        x.addInitialTask(2);
        check.planned("with a second task", x, FOUND, 3, "3,2,", "0,");
        x.setSet(HtnPlanner.SET_OP_PRE, 2, Long.MIN_VALUE);
        x.setSet(HtnPlanner.SET_OP_DEL, 3, -1L);
        check.planned("with DEL", x, FAILED, 3, "", "");
        x.setSet(HtnPlanner.SET_OP_ADD, 3, Long.MIN_VALUE);
        check.planned("with ADD", x, FOUND, 3, "3,2,", "0,");
        x.setSet(HtnPlanner.SET_M_PRE, 0, 1L);
        check.planned("with a method's PRE", x, FAILED, 1, "", "");
        x.setSet(HtnPlanner.SET_M_PRE, 0, 0L);
        x.setSet(HtnPlanner.SET_M_NEG, 0, Long.MIN_VALUE);
        check.planned("with a method's NEG", x, FAILED, 1, "", "");
        x.clearInitialTasks();
        check.planned("without tasks", x, FOUND, 0, "", "");
    }

    private static void inAnyStatus() {
        Samples.inEveryStatus().forEach((name, x) -> {
            int status = x.plan();
            String first = Check.all(x);
            for (int time = 0; time < 100; time++) {
                check.due("plan() again, " + name, x.plan(), status);
                check.same("all after plan() again, " + name, Check.all(x), first);
            }
        });
        HtnPlanner fresh = new HtnPlanner(1, 1);
        check.due("plan() of a fresh object", fresh.plan(), FOUND);
    }

    /** As many operators as the budget are done, one more is not. */
    private static void budgetReached() {
        HtnPlanner none = new HtnPlanner(1, 1);
        check.planned("no operator, budget 1", none, FOUND, 0, "", "");
        for (int budget = 1; budget <= 7; budget++) {
            HtnPlanner x = new HtnPlanner(1, budget);
            for (int i = 0; i < budget; i++) {
                x.addInitialTask(4);
            }
            check.planned("as many operators as budget " + budget, x, FOUND, budget, "4,".repeat(budget), "");
            x.addInitialTask(4);
            check.planned("one more operator than budget " + budget, x, BUDGET, budget, "", "");
        }
        HtnPlanner method = Samples.planner(1, 1, 16);
        method.addMethod(16);
        check.planned("a method, budget 1", method, FOUND, 1, "", "0,");
        method.addSubtask(0, 0);
        check.planned("a method and an operator, budget 1", method, BUDGET, 1, "", "");
    }

    /** The last task takes the last attempt, the last place in the plan and the last method. */
    private static void emptyWithNothingLeft() {
        HtnPlanner byOperator = fullPlan(1, 9, 41);
        check.planned("all used up by an operator", byOperator, FOUND, 41,
                "1,2,3,4,".repeat(7) + "5,5,5,6,", "0,".repeat(7) + "1,2,");
        HtnPlanner byMethod = fullPlan(1, 10, 42);
        byMethod.addSubtask(2, 19);
        byMethod.addMethod(19);
        check.planned("all used up by a method", byMethod, FOUND, 42,
                "1,2,3,4,".repeat(7) + "5,5,5,6,", "0,".repeat(7) + "1,2,3,");
    }

    /** Task 15 is the last one that takes no method, task 16 the first that takes one. */
    private static void firstAndLastOperators() {
        for (int task = 0; task <= 16; task++) {
            HtnPlanner x = Samples.planner(1, 9, task);
            if (task <= 15) {
                check.planned("task " + task, x, FOUND, 1, task + ",", "");
            } else {
                check.planned("task " + task, x, FAILED, 0, "", "");
            }
        }
    }

    /** A way of 31 operators and some more, over nine methods. */
    private static HtnPlanner fullPlan(int more, int depthLimit, int budget) {
        HtnPlanner x = Samples.planner(depthLimit, budget, 16, 16, 16, 16, 16, 16, 16, 17);
        Samples.method(x, 16, 1, 2, 3, 4);
        Samples.method(x, 17, 5, 5, 5, 18);
        x.addMethod(18);
        for (int i = 0; i < more; i++) {
            x.addSubtask(2, 6);
        }
        return x;
    }

    private static void planFull() {
        String before = "1,2,3,4,".repeat(7) + "5,5,5,";
        String methods = "0,".repeat(7) + "1,2,";
        check.planned("31 operators", fullPlan(0, 16, 1024), FOUND, 40, before, methods);
        check.planned("32 operators", fullPlan(1, 16, 1024), FOUND, 41, before + "6,", methods);
        check.planned("33 operators", fullPlan(2, 16, 1024), FAILED, 42, "", "");
        check.planned("35 operators", fullPlan(4, 16, 1024), FAILED, 42, "", "");
        HtnPlanner shorter = fullPlan(2, 16, 1024);
        Samples.method(shorter, 18, 7);
        check.planned("33 operators, then 32", shorter, FOUND, 44, before + "7,", "0,".repeat(7) + "1,3,");
    }

    private static void failedOperatorCounts() {
        HtnPlanner inapplicable = Samples.planner(1, 9, 1, 0, 1);
        Samples.forbid(inapplicable, 0);
        check.planned("an operator that is not applicable", inapplicable, FAILED, 2, "", "");
        HtnPlanner first = Samples.planner(1, 1, 0);
        Samples.forbid(first, 0);
        check.planned("a failure at the last attempt", first, FAILED, 1, "", "");
        check.planned("an operator too many for the plan", fullPlan(2, 9, 42), FAILED, 42, "", "");
        check.planned("an operator too many for the plan and the budget", fullPlan(2, 9, 41), BUDGET, 41, "", "");
    }

    private static void firstAndLastMethods() {
        for (int task = 16; task <= 31; task++) {
            for (int last : new int[] {0, 1, 30, 31}) {
                HtnPlanner x = Samples.planner(1, 50, task);
                int reached = 0;
                for (int m = 0; m < 32; m++) {
                    boolean own = m <= last && m % 2 == last % 2;
                    reached += own ? 1 : 0;
                    Samples.method(x, own ? task : task == 31 ? 16 : task + 1);
                    x.setSet(HtnPlanner.SET_M_PRE, m, m == last ? 0L : 1L);
                }
                check.planned("task " + task + " by method " + last, x, FOUND, reached, "", last + ",");
            }
        }
    }

    private static void depthReached() {
        for (int limit = 1; limit <= 16; limit++) {
            nestedMethods(limit);
            wayOut(limit);
        }
        for (int limit = 1; limit <= 8; limit++) {
            siblings(limit);
        }
    }

    /** Each task by a method with the next task, so that every method is one deeper. */
    private static void nestedMethods(int limit) {
        HtnPlanner x = Samples.planner(limit, 1024, 16);
        StringBuilder methods = new StringBuilder();
        for (int m = 0; m < limit; m++) {
            x.addMethod(16 + m);
            x.addSubtask(m - 1, 16 + m);
            methods.append(m).append(',');
        }
        check.planned(limit + " nested methods", x, FOUND, limit, "", methods.toString());
        if (limit < 16) {
            x.addMethod(16 + limit);
            x.addSubtask(limit - 1, 16 + limit);
            check.planned("one nested method more than " + limit, x, FAILED, limit + 1, "", "");
        }
    }

    /** Where the branch is full both methods fail; the second one is applied a level up. */
    private static void wayOut(int limit) {
        HtnPlanner x = Samples.planner(limit, 1024, 16);
        Samples.method(x, 16, 16);
        Samples.method(x, 16);
        check.planned("a way out at depth " + limit, x, FOUND, limit + 2 + 1, "", "0,".repeat(limit - 1) + "1,");
    }

    private static void siblings(int limit) {
        HtnPlanner x = new HtnPlanner(limit, 1024);
        Samples.method(x, 31);
        for (int i = 0; i < limit; i++) {
            x.addInitialTask(31);
        }
        check.planned(limit + " siblings", x, FOUND, limit, "", "0,".repeat(limit));
        if (x.addInitialTask(31)) {
            check.planned("one sibling more than " + limit, x, FAILED, limit + 1, "", "");
        }
    }

    private static void failedMethodCounts() {
        HtnPlanner inapplicable = Samples.planner(1, 1024, 16);
        for (int m = 0; m < 32; m++) {
            inapplicable.addMethod(16);
            inapplicable.setSet(HtnPlanner.SET_M_PRE, m, 1L);
            check.planned((m + 1) + " methods not applicable", inapplicable, FAILED, m + 1, "", "");
        }
        HtnPlanner deep = Samples.planner(1, 1024, 16);
        Samples.method(deep, 16, 17);
        for (int m = 1; m < 32; m++) {
            deep.addMethod(17);
            check.planned(m + " methods too deep", deep, FAILED, m + 1, "", "");
        }
        HtnPlanner last = Samples.planner(1, 3, 16);
        Samples.method(last, 16, 17);
        Samples.method(last, 17);
        Samples.method(last, 17);
        check.planned("a method too deep at the last attempt", last, FAILED, 3, "", "");
        Samples.method(last, 17);
        check.planned("a method too deep beyond the last attempt", last, BUDGET, 3, "", "");
    }

    private static void laterMethodsGetNone() {
        HtnPlanner x = Samples.planner(4, 50, 16, 16);
        for (int m = 0; m < 31; m++) {
            Samples.method(x, 16, m % 16);
        }
        check.planned("the first of 31", x, FOUND, 4, "0,0,", "0,0,");
        HtnPlanner exact = Samples.planner(4, 2, 16);
        Samples.method(exact, 16, 5);
        Samples.method(exact, 16, 6);
        check.planned("the first of two, no attempt left", exact, FOUND, 2, "5,", "0,");
    }

    private static void noMethodLeft() {
        HtnPlanner x = Samples.planner(4, 50, 16, 17);
        Samples.forbid(x, 0);
        Samples.method(x, 16, 1);
        Samples.method(x, 16, 2);
        Samples.method(x, 17, 0);
        Samples.method(x, 17, 3, 0);
        // Each method of 16 with its operator (2), then 17 by both of its methods (2 + 3).
        check.planned("each way fails at its end", x, FAILED, 2 * (2 + 2 + 3), "", "");
    }

    private static void taskWithoutMethod() {
        for (int task = 16; task <= 31; task++) {
            HtnPlanner x = Samples.planner(16, 1, task);
            check.planned("task " + task + " without a method", x, FAILED, 0, "", "");
            Samples.method(x, task == 16 ? 17 : task - 1);
            check.planned("task " + task + " with the method of another", x, FAILED, 0, "", "");
        }
        HtnPlanner used = Samples.planner(16, 1, 0, 16);
        check.planned("no method and no attempt left", used, FAILED, 1, "", "");
        HtnPlanner inner = Samples.planner(16, 2, 16);
        Samples.method(inner, 16, 17);
        Samples.method(inner, 16, 17);
        check.planned("two methods whose subtask has none", inner, FAILED, 2, "", "");
    }

    /** Each way but the one that the budget cuts off would succeed with one attempt more. */
    private static void noAlternativeAfterTheBudget() {
        for (int depth = 1; depth <= 16; depth++) {
            HtnPlanner x = Samples.planner(16, depth, 16);
            Samples.method(x, 16, 16);
            Samples.method(x, 16);
            check.planned("a stop " + depth + " methods deep", x, BUDGET, depth, "", "");
        }
        HtnPlanner operator = Samples.planner(16, 2, 16);
        Samples.method(operator, 16, 0, 1);
        Samples.method(operator, 16);
        check.planned("a stop at an operator", operator, BUDGET, 2, "", "");
        HtnPlanner failing = Samples.planner(16, 2, 16);
        Samples.forbid(failing, 0);
        Samples.method(failing, 16, 0);
        Samples.method(failing, 16);
        check.planned("a stop at the second method", failing, BUDGET, 2, "", "");
    }
}
